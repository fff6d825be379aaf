import java.nio.file.Files;
import java.nio.file.Path;
import java.util.Arrays;
import java.util.Map;
import java.util.TreeMap;

/**
 * The document sentence by sentence: each boundary that it names, just at it and just beyond it. A test quotes the
 * words that it stands for; a part of the terms or promises that no test quotes is told as wrong, too.
 */
public final class BoundariesTest {
    private static final int NONE = FacetSieve.NONE;
    private static final int LEAST = Integer.MIN_VALUE;
    private static final int MOST = Integer.MAX_VALUE;
    private static final Path DOCUMENT = Path.of("../shared/DOC.md");
    private static final String[] WORDS = {
        "head", "single", "many", "value", "in", "record", "or", "and", "less", "all"};

    /** Sets: red 0 {0, 1, 33}, dark 1 {0, 33}, blue 2 {2}, car 3 {0, 1}, bike 4 {1}. */
    private static final String SHOP =
        "head hue single;value red;value dark in red;value blue;"
        + "head use many;value car;value bike;"
        + "record 0 5 dark car;record 1 9 red bike car;record 2 9 blue;record 33 1 dark;";

    private static final Map<String, String> SECTIONS = new TreeMap<>();
    private static final Map<String, boolean[]> QUOTED = new TreeMap<>();
    private static String section = "";
    private static String sentence = "";
    private static int sentences = 0;
    private static int asked = 0;
    private static int wrong = 0;

    // ---- the document

    private static void readDocument() throws Exception {
        String name = "";
        for (String line : Files.readString(DOCUMENT).split("\n")) {
            if (line.startsWith("## ")) {
                name = line.replaceAll("^## ", "").replaceAll(":.*", "");
            } else if (name.startsWith("Terms") && line.matches("[1-3]\\. .*")) {
                name = "Terms " + line.charAt(0);
            } else if (line.startsWith("The constants:")) {
                name = "Constants";
            }
            boolean says = !line.startsWith("#") && !line.startsWith("```");
            String words = line.replaceAll("^[1-3]\\. ", "").replaceAll("^`[^`]*`: ", "").trim();
            if (says && !words.isEmpty()) {
                SECTIONS.merge(name, words, (before, more) -> before + " " + more);
            }
        }
        SECTIONS.forEach((key, text) -> QUOTED.put(key, new boolean[text.length()]));
    }

    private static void in(String name) {
        section = name;
    }

    private static void says(String quote) {
        sentence = quote;
        sentences++;
        int at = SECTIONS.getOrDefault(section, "").indexOf(quote);
        if (at < 0) {
            wrong++;
            System.out.println(section + " does not say: " + quote);
        } else {
            Arrays.fill(QUOTED.get(section), at, at + quote.length(), true);
        }
    }

    private static void tellWhatIsNotQuoted() {
        int looked = 0;
        for (String name : SECTIONS.keySet()) {
            if (name.matches("(Terms|Promise) [0-9]+")) {
                looked++;
                StringBuilder rest = new StringBuilder();
                for (int i = 0; i < SECTIONS.get(name).length(); i++) {
                    rest.append(QUOTED.get(name)[i] ? ' ' : SECTIONS.get(name).charAt(i));
                }
                if (!rest.toString().isBlank()) {
                    wrong++;
                    System.out.println(name + " says, and no test does: " + rest.toString().trim());
                }
            }
        }
        due("terms and promises", looked, 3 + 31);
    }

    // ---- helpers

    private static void due(String what, int got, int want) {
        asked++;
        if (got != want) {
            wrong++;
            System.out.println(section + ", \"" + sentence + "\": " + what + " answered " + got + ", due is " + want);
        }
    }

    private static void due(String what, boolean got, boolean want) {
        due(what, got ? 1 : 0, want ? 1 : 0);
    }

    private static void feed(FacetSieve x, String text) {
        int[] numbers = new int[5];
        for (int i = 0; i < 20; i++) {
            numbers[i / 4] = numbers[i / 4] << 8 | (i < text.length() ? text.charAt(i) : ' ');
        }
        x.feed(numbers[0], numbers[1], numbers[2], numbers[3], numbers[4]);
    }

    /** Puts a text onto an empty tape. */
    private static void tell(FacetSieve x, String text) {
        for (int at = 0; at < text.length(); at += 20) {
            feed(x, text.substring(at, Math.min(at + 20, text.length())));
        }
        due("end of " + text, x.end(text.length()), text.length());
    }

    private static int scheme(FacetSieve x, String text) {
        tell(x, text);
        return x.scheme();
    }

    private static int ask(FacetSieve x, String text) {
        tell(x, text);
        return x.ask();
    }

    private static FacetSieve sieve(String text) {
        FacetSieve x = new FacetSieve();
        int records = scheme(x, text);
        due("scheme of " + text, records, x.count(2));
        due("fault of " + text, x.fault(0), 0);
        due("place of " + text, x.fault(1), NONE);
        return x;
    }

    private static void schemeFault(String text, int fault, int place) {
        FacetSieve x = new FacetSieve();
        due("scheme of " + text, scheme(x, text), NONE);
        dueFault(x, text, fault, place);
        due("heads of " + text, x.count(0), 0);
        due("values of " + text, x.count(1), 0);
        due("records of " + text, x.count(2), 0);
    }

    private static void dueFault(FacetSieve x, String text, int fault, int place) {
        due("fault of " + text, x.fault(0), fault);
        due("place of " + text, x.fault(1), place);
        due("tape behind " + text, x.count(11), 0);
    }

    private static void questionFault(String text, int fault, int place) {
        FacetSieve x = sieve(SHOP);
        due("ask of " + text, ask(x, text), NONE);
        dueFault(x, text, fault, place);
        due("asked of " + text, x.asked(0), NONE);
    }

    private static void question(String text, int... records) {
        FacetSieve x = sieve(SHOP);
        due("ask of " + text, ask(x, text), records.length);
        due("fault of " + text, x.fault(0), 0);
        for (int k = 0; k < records.length; k++) {
            due("record " + k + " of " + text, x.asked(10 + k), records[k]);
        }
        due("record behind the last of " + text, x.asked(10 + records.length), NONE);
    }

    private static void work(String text, int work) {
        FacetSieve x = sieve(SHOP);
        ask(x, text);
        due("work of " + text, x.asked(1), work);
    }

    private static void dueLeft(String what, FacetSieve x, int... records) {
        due("left, " + what, x.count(3), records.length);
        for (int k = 0; k < records.length; k++) {
            due("left " + k + ", " + what, x.left(k, false), records[k]);
            due("is left: " + records[k] + ", " + what, x.record(records[k], 2), 1);
        }
        due("left behind the last, " + what, x.left(records.length, false), NONE);
    }

    /** Values va, vb and on, each as one line. */
    private static String valueLines(int from, int to, boolean chain) {
        StringBuilder text = new StringBuilder();
        for (int i = from; i < to; i++) {
            text.append("value v").append((char) ('a' + i));
            if (chain && i > from) {
                text.append(" in v").append((char) ('a' + i - 1));
            }
            text.append(';');
        }
        return text.toString();
    }

    private static String recordLines(int amount, String tags) {
        StringBuilder text = new StringBuilder();
        for (int i = 0; i < amount; i++) {
            text.append("record ").append(i).append(" 0").append(tags).append(';');
        }
        return text.toString();
    }

    private static String facts(int amount) {
        StringBuilder text = new StringBuilder("all");
        for (int i = 1; i < amount; i++) {
            text.append(i % 2 == 0 ? " or all" : " or red");
        }
        return text.toString();
    }

    private static String nested(int depth, String inside) {
        return "[".repeat(depth) + inside + "]".repeat(depth);
    }

    // ---- terms 1

    private static void recordsAndBlocks() {
        in("Terms 1");
        says("RECORDS are numbers 0 .. 255, some of which are THERE, each with a RANK, 0 .. 999.");
        FacetSieve x = sieve("record 0 0;record 255 999;");
        due("records", x.count(2), 2);
        due("rank of 0", x.record(0, 0), 0);
        due("rank of 255", x.record(255, 0), 999);
        due("1 is not there", x.record(1, 0), NONE);
        due("254 is not there", x.record(254, 0), NONE);
        due("no record 256", x.record(256, 0), NONE);
        due("no record -1", x.record(-1, 0), NONE);
        schemeFault("record 256 0;", 2, 7);
        schemeFault("record 0 1000;", 1, 9);
        due("add 254, rank 0", x.add(254, 0), 0);
        due("add 1, rank 999", x.add(1, 999), 0);
        due("add 256", x.add(256, 0), 1);
        due("add -1", x.add(-1, 0), 1);
        due("add rank 1000", x.add(2, 1000), 1);
        due("add rank -1", x.add(2, -1), 1);
        says("BLOCK of a RECORD: its number by 32 (0 .. 7); its place in it: the rest.");
        x = sieve("head hh many;value vv;record 0 0 vv;record 31 0 vv;record 32 0 vv;record 223 0 vv;"
            + "record 224 0 vv;record 225 0 vv;record 255 0 vv;");
        int[] records = {2, 1, NONE, NONE, NONE, NONE, 1, 3};
        int[] rows = {2, 1, NONE, NONE, NONE, NONE, 1, 2};
        for (int block = 0; block < 8; block++) {
            due("records of block " + block, x.box(0, block, 1), records[block]);
            due("rows of block " + block, x.box(0, block, 3), rows[block]);
        }
        due("no block 8", x.box(0, 8, 1), NONE);
        due("no block -1", x.box(0, -1, 1), NONE);
    }

    private static void headsAtMost() {
        says("HEADS, 4 at most, from 0 on, are SINGLE or MANY.");
        String four = "head aa single;head bb many;head cc single;head dd many;";
        FacetSieve x = sieve(four);
        due("heads", x.count(0), 4);
        for (int head = 0; head < 4; head++) {
            due("many " + head, x.head(head, 0), head % 2);
            due("name " + head, x.head(head, 10), 'a' + head);
        }
        due("no head 4", x.head(4, 0), NONE);
        due("no head -1", x.head(-1, 0), NONE);
        schemeFault(four + "head ee many;", 4, four.length());
        schemeFault(four + "head", 4, four.length());
        schemeFault("head aa any;", 1, 8);
        schemeFault("head aa;", 1, 7);
    }

    private static void valuesAtMost() {
        says("VALUES, 20 at most of all HEADS together, from 0 on as they are told, each of a HEAD;");
        String text = "head ha many;" + valueLines(0, 12, false) + "head hb many;" + valueLines(12, 20, false);
        FacetSieve x = sieve(text);
        due("values", x.count(1), 20);
        due("of head 0", x.head(0, 1), 12);
        due("of head 1", x.head(1, 1), 8);
        for (int value = 0; value < 20; value++) {
            due("head of " + value, x.value(value, 0), value < 12 ? 0 : 1);
            due("letter of " + value, x.value(value, 11), 'a' + value);
        }
        due("no value 20", x.value(20, 0), NONE);
        due("no value -1", x.value(-1, 0), NONE);
        schemeFault(text + "value vu;", 4, text.length());
        schemeFault(text + "head hc many;value vu;", 4, text.length() + 13);
        sieve(text + "head hc many;");
        schemeFault("value va;", 4, 0);
        says("a VALUE may lie under another one of its HEAD (PARENT, told ahead); "
            + "ABOVE are its PARENT, that one's, and on.");
        x = sieve("head hh single;" + valueLines(0, 20, true) + "record 7 7 vt;record 8 8 va;");
        for (int value = 0; value < 20; value++) {
            due("parent of " + value, x.value(value, 1), value - 1);
            due("above " + value, x.value(value, 2), value);
            due("has " + value, x.has(7, value), true);
            due("the other has " + value, x.has(8, value), value == 0);
        }
        due("in all sets", x.spread(20), 1);
        schemeFault("head hh many;value va in va;", 3, 25);
        schemeFault("head hh many;value va in vb;value vb;", 3, 25);
        schemeFault("head ha many;value va;head hb many;value vb in va;", 3, 47);
        sieve("head ha many;value va;head hb many;value vb;value vc in vb;");
        schemeFault("head hh many;value va in hh;", 3, 25);
    }

    private static void names() {
        says("NAMES are of HEADS and VALUES, each of 2 to 8 letters, no two alike, none a word told below in quotes.");
        FacetSieve x = sieve("head ab many;value abcdefgh;value cd in abcdefgh;record 1 1 abcdefgh;");
        due("eighth letter", x.value(0, 17), 'h');
        due("no ninth", x.value(0, 18), NONE);
        due("second letter", x.value(1, 11), 'd');
        due("no third", x.value(1, 12), NONE);
        due("ask of 8 letters", ask(x, "abcdefgh"), 1);
        for (String name : new String[] {"a", "abcdefghi", "abcdefghabcdefgh", "z"}) {
            schemeFault("head " + name + " many;", 1, 5);
            schemeFault("head hh many;value " + name + ";", 1, 19);
            schemeFault("head hh many;value va;value vb in " + name + ";", 1, 34);
            schemeFault("head hh many;record 1 1 " + name + ";", 1, 24);
            questionFault(name, 1, 0);
            questionFault("red or " + name, 1, 7);
        }
        sieve("head ab many;value ba;value aba;value abc;value abcdefgh;value abcdefgi;value bbcdefgh;head aab many;");
        schemeFault("head ab many;head ab many;", 3, 18);
        schemeFault("head ab many;value ab;", 3, 19);
        schemeFault("head ab many;value cd;value cd;", 3, 28);
        schemeFault("head ab many;value cd;head cd many;", 3, 27);
        schemeFault("head ab many;value cd;head ef many;value cd;", 3, 41);
        schemeFault("head ab many;value abcdefgh;value abcdefgh;", 3, 34);
        for (String word : WORDS) {
            schemeFault("head " + word + " many;", 1, 5);
            schemeFault("head hh many;value " + word + ";", 1, 19);
            schemeFault("head hh many;value va;value vb in " + word + ";", 1, 34);
            schemeFault("head hh many;record 1 1 " + word + ";", 1, 24);
            x = sieve("head " + word + "x many;value x" + word + ";record 1 1 x" + word + ";");
            due("ask of x" + word, ask(x, "x" + word), 1);
        }
        sieve("head hea many;value singl;value man;value valu;value inn;value recor;value orr;value an;value les;value al;");
        sieve("head any many;");
    }

    private static void tagsAndSets() {
        says("A RECORD that is THERE may have VALUES as TAGS; of a SINGLE HEAD one at most.");
        FacetSieve x = sieve("head ha single;value aa;value ab in aa;head hb single;value ba;"
            + "head hc many;value ca;value cb;record 1 1 ab ba ca cb;record 2 2;");
        due("tags of 1", x.record(1, 1), 4);
        due("tags of 2", x.record(2, 1), 0);
        due("tags of none there", x.record(3, 1), NONE);
        due("tag none there", x.tag(3, 0), 3);
        due("one of a single head", x.tag(2, 0), 0);
        due("a second one", x.tag(2, 1), 4);
        due("one of another single head", x.tag(2, 2), 0);
        due("one of a head of many", x.tag(2, 3), 0);
        due("a second one of many", x.tag(2, 4), 0);
        schemeFault("head ha single;value aa;value ab;record 1 1 aa ab;", 6, 47);
        sieve("head ha single;value aa;value ab;record 1 1 aa;record 2 1 ab;");
        x = sieve("head ha single;value aa;head hb single;value ba;head hc single;value ca;record 1 1 ca ba aa;record 2 2 ca;");
        due("heads from the last on", x.tag(2, 1), 0);
        due("the first", x.tag(2, 0), 0);
        says("SET of a VALUE: all RECORDS THERE with that TAG, or with one of a VALUE that it is ABOVE.");
        x = sieve("head hh many;value va;value vb in va;value vc in vb;value vd in va;"
            + "record 1 0 va;record 2 0 vb;record 3 0 vc;record 4 0 vd;record 5 0 vc vd;record 6 0;");
        int[] sets = {0b111110, 0b101100, 0b101000, 0b110000};
        for (int value = 0; value < 4; value++) {
            due("set of " + value, x.value(value, 3), Integer.bitCount(sets[value]));
            for (int record = 0; record < 8; record++) {
                due("has " + record + " " + value, x.has(record, value), (sets[value] >> record & 1) != 0);
            }
        }
        x.untag(5, 2);
        due("still in by the other tag", x.has(5, 0), true);
        due("no more in", x.has(5, 1), false);
        x.drop(5);
        due("dropped", x.has(5, 0), false);
        due("set then", x.value(0, 3), 4);
    }

    private static void box(int kind, int size, int rows, int... records) {
        FacetSieve x = sieve("head hh many;value vv;");
        for (int record : records) {
            x.add(record, 0);
            x.tag(record, 0);
        }
        String what = " of " + Arrays.toString(records);
        int block = records[0] / 32;
        due("kind" + what, x.box(0, block, 0), kind);
        due("records" + what, x.box(0, block, 1), records.length);
        due("size" + what, x.box(0, block, 2), size);
        due("rows" + what, x.box(0, block, 3), rows);
        due("size of the set" + what, x.value(0, 5), size);
        due("size of all" + what, x.count(4), size);
        for (int other = 0; other < 3; other++) {
            due("boxes of kind " + other + what, x.count(6 + other), other == kind ? 1 : 0);
        }
    }

    private static int[] upFrom(int first, int amount) {
        int[] records = new int[amount];
        for (int i = 0; i < amount; i++) {
            records[i] = first + i;
        }
        return records;
    }

    private static void boxes() {
        says("A BOX is of the part of a SET that lies in a BLOCK, if that is not empty:");
        FacetSieve x = sieve("head hh many;value vv;record 31 0 vv;record 32 0;record 64 0 vv;");
        due("boxes", x.value(0, 6), 2);
        due("31", x.box(0, 0, 1), 1);
        due("an untagged one makes no box", x.box(0, 1, 1), NONE);
        due("64", x.box(0, 2, 1), 1);
        x.untag(64, 0);
        due("empty is no box", x.box(0, 2, 1), NONE);
        due("boxes then", x.count(5), 1);
        says("of KIND 0 a LIST, SIZE 1 for each RECORD; 1 RUNS, SIZE 2 for each row of RECORDS that follow one another "
            + "in the BLOCK; 2 BITS, SIZE 4: the KIND of the least SIZE, of several the least KIND.");
        box(0, 1, 1, 0);
        box(0, 1, 1, 31);
        box(0, 1, 1, 255);
        box(0, 2, 1, 0, 1);
        box(0, 2, 1, 30, 31);
        box(0, 2, 2, 0, 31);
        box(1, 2, 1, 0, 1, 2);
        box(1, 2, 1, 29, 30, 31);
        box(0, 3, 2, 0, 1, 3);
        box(0, 3, 3, 0, 2, 4);
        box(1, 2, 1, upFrom(28, 4));
        box(0, 4, 2, 0, 1, 3, 4);
        box(0, 4, 2, 0, 1, 2, 31);
        box(0, 4, 4, 0, 2, 4, 31);
        box(1, 4, 2, 0, 1, 2, 4, 5);
        box(1, 4, 2, 32, 33, 34, 35, 63);
        box(2, 4, 3, 0, 1, 3, 4, 6);
        box(2, 4, 5, 0, 2, 4, 6, 8);
        box(1, 2, 1, upFrom(0, 31));
        box(1, 2, 1, upFrom(0, 32));
        box(1, 2, 1, upFrom(224, 32));
        box(2, 4, 16, 0, 2, 4, 6, 8, 10, 12, 14, 16, 18, 20, 22, 24, 26, 28, 30);
        box(2, 4, 16, 1, 3, 5, 7, 9, 11, 13, 15, 17, 19, 21, 23, 25, 27, 29, 31);
        says("SIZE of a SET: those of its BOXES together.");
        x = sieve("head hh many;value va;value vb in va;record 30 0 va;record 31 0 va;record 32 0 va;record 33 0 va;"
            + "record 34 0 vb;record 255 0 vb;record 99 0;");
        due("size of va", x.value(0, 5), 2 + 2 + 1);
        due("size of vb", x.value(1, 5), 1 + 1);
        due("size of all", x.count(4), 7);
    }

    private static void tapeAndTokens() {
        says("THE TAPE has at most 600 bytes.");
        FacetSieve x = sieve("record 7 7;" + " ".repeat(576) + "\nrecord 8 8;");
        due("600 bytes are read", x.count(2), 2);
        schemeFault("record 7 7;" + " ".repeat(588) + "X", 1, 599);
        schemeFault("head" + " ".repeat(596), 1, 600);
        questionFault(" ".repeat(600), 1, 600);
        question(" ".repeat(596) + "blue", 2);
        question("blue" + " ".repeat(596), 2);
        says("TOKENS, as long as they go, blanks (10, 32) between: words, rows of letters a .. z; NUMBERS, 1 to 3 digits; "
            + "; [ ] one byte.");
        for (int sign = 0; sign < 256; sign++) {
            everySign((char) sign);
        }
        x = sieve("head hue many;value red;record1 9red;record 02 09;");
        due("digits behind letters, letters behind digits", x.record(1, 10), 0);
        due("leading naught", x.record(2, 0), 9);
        x = sieve("record 001 000;record 002 999;");
        due("three digits", x.record(1, 0), 0);
        due("three nines", x.record(2, 0), 999);
        schemeFault("record 0001 9;", 1, 7);
        schemeFault("record 1 0009;", 1, 9);
        schemeFault("record 12;", 1, 9);
        schemeFault("headhue many;", 1, 0);
        question("[blue]or[dark]", 0, 2, 33);
        question("\n[\n[ blue ]\n]\n", 2);
        questionFault("blueor dark", 3, 0);
    }

    /** A byte between two words of a scheme and of a question, and alone behind them. */
    private static void everySign(char sign) {
        boolean blank = sign == 10 || sign == 32;
        boolean letter = sign >= 'a' && sign <= 'z';
        if (blank) {
            sieve("head" + sign + "hue many;");
            sieve("head hue many;" + sign);
            question("blue" + sign, 2);
            questionFault("red" + sign + "car", 1, 4);
        } else {
            schemeFault("head" + sign + "hue many;", 1, letter ? 0 : 4);
            schemeFault("head hue many;" + sign, 1, 14);
            questionFault("red" + sign + "car", letter ? 3 : 1, letter ? 0 : 3);
            questionFault("blue" + sign, letter ? 3 : 1, letter ? 0 : 4);
        }
    }

    private static void schemeLines() {
        says("A SCHEME: {LINE ';'}: 'head' NAME ('single' | 'many') | 'value' NAME ['in' NAME] (of the latest HEAD; in: its "
            + "PARENT) | 'record' NUMBER NUMBER {NAME} (a RECORD that is THERE, its RANK, its TAGS).");
        String whole = "head aa single;value bb;value cc in bb;record 1 22;record 33 4 bb;";
        int[] ends = {0, 15, 24, 39, 51, 66};
        int[] records = {0, 0, 0, 0, 1, 2};
        int reached = 0;
        for (int n = 0; n <= whole.length(); n++) {
            FacetSieve x = new FacetSieve();
            int got = scheme(x, whole.substring(0, n));
            boolean fine = reached < ends.length && ends[reached] == n;
            due("scheme of the first " + n, got, fine ? records[reached] : NONE);
            due("fault of the first " + n, x.fault(0), fine ? 0 : 1);
            reached += fine ? 1 : 0;
        }
        FacetSieve x = sieve("   \n ");
        due("nothing but blanks", x.count(0), 0);
        schemeFault(";", 1, 0);
        schemeFault("head aa single;;", 1, 15);
        schemeFault("head aa bb single;", 1, 8);
        schemeFault("head aa single many;", 1, 15);
        schemeFault("head aa many;value bb cc;", 1, 22);
        schemeFault("head aa many;value bb;value cc in bb bb;", 1, 37);
        schemeFault("head aa many;value bb in;", 1, 24);
        schemeFault("head aa many;value bb in 12;", 1, 25);
        schemeFault("record;", 1, 6);
        schemeFault("record 1;", 1, 8);
        schemeFault("record 1 2 3;", 1, 11);
        schemeFault("record aa 2;", 1, 7);
        schemeFault("record 1 aa;", 1, 9);
        schemeFault("record 1 2[", 1, 10);
        schemeFault("]", 1, 0);
        schemeFault("12", 1, 0);
        schemeFault("all;", 1, 0);
        schemeFault("aa;", 1, 0);
        for (String word : WORDS) {
            wordElsewhere(word);
        }
        x = sieve("head aa many;value ab;head bb many;record 9 9;value ba;value bc;");
        due("of the latest head", x.value(1, 0), 1);
        due("values of the one ahead", x.head(0, 1), 1);
    }

    /** A word of the scheme or of questions where the text goes on with another one. */
    private static void wordElsewhere(String word) {
        if (!word.equals("head")) {
            schemeFault("head aa many;" + word + " bb many;", 1, word.equals("value") ? 22 : word.equals("record") ? 20 : 13);
        }
        if (!word.equals("value")) {
            schemeFault("head aa many;" + word + " bb;", 1, word.equals("head") ? 20 : word.equals("record") ? 20 : 13);
        }
        if (!word.equals("record")) {
            schemeFault("head aa many;" + word + " 1 1;", 1, word.equals("head") ? 18 : word.equals("value") ? 19 : 13);
        }
        if (!word.equals("single") && !word.equals("many")) {
            schemeFault("head aa " + word + ";", 1, 8);
        }
        if (!word.equals("in")) {
            schemeFault("head aa many;value bb;value cc " + word + " bb;", 1, 31);
        }
        if (!word.equals("and") && !word.equals("or") && !word.equals("less")) {
            questionFault("red " + word + " car", 1, 4);
        }
        if (!word.equals("all")) {
            questionFault(word + " or car", 1, 0);
            questionFault("red and " + word, 1, 8);
        }
    }

    private static void schemeFaults() {
        says("FAULTS, with places (a token's first byte; the end's), the first that is met as it is read, of one place the "
            + "least (behind it nothing is read):");
        schemeFault("\n hue", 1, 2);
        schemeFault("head  ", 1, 6);
        schemeFault("head", 1, 4);
        schemeFault("head hue many;value  hue X", 3, 21);
        schemeFault("record 256 1234;", 2, 7);
        schemeFault("value V", 4, 0);
        schemeFault("record 1 1;record 1 1111;", 5, 18);
        schemeFault("head hh many;value va;record 1 1 va va vb;", 6, 36);
        schemeFault("head hh many;value va;record 1 1 va vb va;", 3, 36);
        schemeFault("head hh many;record 1 1 a;value", 1, 24);
        says("1 a byte or token with which no text goes on (a longer row of digits, a word of 1 letter or more than 8, is no "
            + "token).");
        schemeFault("Head hue many;", 1, 0);
        schemeFault("head hue many,", 1, 13);
        schemeFault("head h many;", 1, 5);
        schemeFault("head abcdefghi many;", 1, 5);
        schemeFault("headheadh hue many;", 1, 0);
        schemeFault("record 1111 1;", 1, 7);
        schemeFault("record 1 1 x;", 1, 11);
        schemeFault("record 999999999999 1;", 1, 7);
        schemeFault("head many many;", 1, 5);
        schemeFault("head hue \u0080many;", 1, 9);
        schemeFault("head hue \u00e1;", 1, 9);
        says("2 a NUMBER that can't be;");
        sieve("record 255 999;");
        schemeFault("record 256 999;", 2, 7);
        schemeFault("record  999 0;", 2, 8);
        schemeFault("record 255 0;record 256", 2, 20);
        says("3 a NAME that is told already (head, value), or that tells no VALUE (in, record), or (in) one of another HEAD;");
        schemeFault("head aa many;head aa", 3, 18);
        schemeFault("head aa many;value ab;head ab", 3, 27);
        schemeFault("head aa many;value aa", 3, 19);
        schemeFault("head aa many;value ab;value ab", 3, 28);
        schemeFault("head aa many;value ab in zz", 3, 25);
        schemeFault("head aa many;value ab in aa", 3, 25);
        schemeFault("head aa many;value ab;head bb many;value ba in ab", 3, 47);
        schemeFault("record 1 1 zz", 3, 11);
        schemeFault("head aa many;record 1 1 aa", 3, 24);
        schemeFault("head aa many;record 1 1 ab;value ab;", 3, 24);
        says("4 the word of a 5th HEAD, of a 21st VALUE, of a VALUE ahead of any HEAD;");
        String full = "head ha many;head hb many;head hc many;head hd many;" + valueLines(0, 20, false);
        FacetSieve x = sieve(full);
        due("four heads", x.count(0), 4);
        due("twenty values", x.count(1), 20);
        schemeFault(full + "head he many;", 4, full.length());
        schemeFault(full + "value vu;", 4, full.length());
        schemeFault(full + "record 1 1;value vu;", 4, full.length() + 11);
        schemeFault("record 1 1;value va;head ha many;", 4, 11);
        says("5 a RECORD that is THERE already, at its number;");
        sieve("record 5 1;record 6 1;record 4 1;");
        schemeFault("record 5 1;record 5 1;", 5, 18);
        schemeFault("record 5 1;record 005 2;", 5, 18);
        schemeFault("record 0 0;record 255 0;record 255", 5, 31);
        schemeFault("record 0 0;record 255 0;record 0", 5, 31);
        says("6 a TAG that the RECORD has, or a second one of a SINGLE HEAD, at it.");
        schemeFault("head hh many;value va;record 1 1 va va;", 6, 36);
        schemeFault("head hh single;value va;record 1 1 va va;", 6, 38);
        schemeFault("head hh single;value va;value vb in va;record 1 1 va vb;", 6, 53);
        schemeFault("head hh single;value va;value vb in va;record 1 1 vb va;", 6, 53);
        sieve("head hh many;value va;value vb in va;record 1 1 va vb;record 2 1 vb va;");
        sieve("head ha single;value va;head hb single;value vb;record 1 1 va vb;");
    }

    private static void questions() {
        says("A QUESTION: PART {'or' PART}. PART: FACT {('and' | 'less') FACT}. FACT: NAME (of a VALUE: its SET) | 'all' (all "
            + "that are THERE) | '[' QUESTION ']' (6 deep at most).");
        question("dark", 0, 33);
        question("all", 0, 1, 2, 33);
        question("blue or car and bike", 1, 2);
        question("[blue or car] and bike", 1);
        question("car less bike or blue", 0, 2);
        question("blue less blue or dark and car", 0);
        question(nested(6, "blue"), 2);
        question(nested(6, "blue") + " or " + nested(6, "bike"), 1, 2);
        question("[blue or " + nested(5, "bike") + "]or[blue]or[blue]or[blue]or[blue]or[blue]or[blue]", 1, 2);
        question("[blue or bike] and [car]", 1);
        question("[blue or bike] and [blue or car] less [[blue]]", 1);
        // At every depth a part and a fact wait, while all that is deeper is read.
        String deepest = "blue or car and bike";
        for (int depth = 1; depth <= 6; depth++) {
            deepest = "blue or car and [" + deepest + "]";
        }
        question(deepest, 1, 2);
        questionFault(deepest.replace("bike", "[bike]"), 8, deepest.indexOf("bike"));
        questionFault("", 1, 0);
        questionFault("[]", 1, 1);
        questionFault("red or", 1, 6);
        questionFault("red and", 1, 7);
        questionFault("red less", 1, 8);
        questionFault("or red", 1, 0);
        questionFault("red or or red", 1, 7);
        questionFault("red and less red", 1, 8);
        questionFault("red all", 1, 4);
        questionFault("red [all]", 1, 4);
        questionFault("[red] [all]", 1, 6);
        questionFault("[red", 1, 4);
        questionFault("[red]]", 1, 5);
        questionFault("]", 1, 0);
        questionFault("[red or ]", 1, 8);
        questionFault("all;", 1, 3);
        says("and: those of both; less: those of the one, not of the other; or: those of either; from the left on.");
        question("red and car", 0, 1);
        question("red and blue");
        question("red less car", 33);
        question("car less red");
        question("blue or car", 0, 1, 2);
        question("all less red less blue");
        question("all less [red less dark]", 0, 2, 33);
        question("all less red and car");
        question("all less [red and car]", 2, 33);
        question("dark and car less bike", 0);
        question("red less car and dark", 33);
        says("FAULTS: 1 and 3 likewise; 7 a VALUE or 'all' beyond the 30th, at it; 8 a '[' 7 deep, at it.");
        questionFault("zz", 3, 0);
        questionFault("hue", 3, 0);
        questionFault("red or zz X", 3, 7);
        questionFault("red or X zz", 1, 7);
        question(facts(30), 0, 1, 2, 33);
        int behind = facts(30).length();
        questionFault(facts(30) + " or red", 7, behind + 4);
        questionFault(facts(30) + " or all X", 7, behind + 4);
        questionFault(facts(30) + " or [[red]]", 7, behind + 6);
        questionFault(facts(30) + " or zz", 3, behind + 4);
        questionFault(facts(30) + " or", 1, behind + 3);
        questionFault("[" + facts(29) + "] or red and all", 7, facts(29).length() + 14);
        questionFault(nested(7, "red"), 8, 6);
        questionFault("[[[[[[[", 8, 6);
        questionFault("[[[[[[red or [", 8, 13);
        questionFault("[[[[[[red[", 1, 9);
        questionFault("[[[[[[", 1, 6);
        question("[[[[[[red] or [red]] or [[red]]]]]]", 0, 1, 33);
        questionFault("[[[[[[red] or [[red]]]]]]]", 8, 15);
        questionFault(facts(30) + " or [[[[[[[", 8, behind + 10);
        FacetSieve x = sieve(SHOP);
        for (int i = 0; i < 3; i++) {
            due("thirty of each", ask(x, facts(30)), 4);
            due("beyond them", ask(x, facts(31)), NONE);
            due("six deep each", ask(x, nested(6, "blue")), 1);
            due("deeper", ask(x, nested(7, "blue")), NONE);
        }
    }

    // ---- terms 2

    /** Sets: ab 0 {1, 2}, ac 1 {2, 3}, ad 2 {3}, ba 3 {1, 3}, bc 4 {2}; 40 is in none. */
    private static final String STOCK =
        "head aa many;value ab;value ac;value ad in ac;head bb single;value ba;value bc;"
        + "record 3 999 ad ba;record 1 5 ab ba;record 2 5 ab ac bc;record 40 0;";

    private static void choices() {
        in("Terms 2");
        says("CHOSEN: of each VALUE 0 no, 1 WANTED, 2 SHUT OUT.");
        FacetSieve x = sieve(STOCK);
        for (int value = 0; value < 5; value++) {
            due("at first " + value, x.value(value, 9), 0);
        }
        for (int how : new int[] {1, 2, 0, 2, 1, 0}) {
            due("choose " + how, x.choose(4, how), 0);
            due("chosen " + how, x.value(4, 9), how);
        }
        due("choose 3", x.choose(4, 3), 1);
        due("choose -1", x.choose(4, -1), 1);
        due("still", x.value(4, 9), 0);
        says("A HEAD goes by ANY (at first) or by ALL.");
        for (int head = 0; head < 2; head++) {
            due("by any at first", x.head(head, 2), 0);
            due("go", x.go(head, true), 0);
            due("by all", x.head(head, 2), 1);
            due("go back", x.go(head, false), 0);
            due("by any", x.head(head, 2), 0);
        }
    }

    private static void leftOnes() {
        says("LEFT: all that are THERE, in SETS of WANTED VALUES, HEAD by HEAD (of those HEADS that have any): of ANY in some "
            + "of them, of ALL in each; and in no SET of a VALUE that is SHUT OUT.");
        FacetSieve x = sieve(STOCK);
        dueLeft("nothing chosen", x, 1, 2, 3, 40);
        x.go(0, true);
        dueLeft("by all, nothing wanted", x, 1, 2, 3, 40);
        x.choose(0, 1);
        dueLeft("one by all", x, 1, 2);
        due("not left", x.record(40, 2), 0);
        x.choose(1, 1);
        dueLeft("two by all", x, 2);
        x.go(0, false);
        dueLeft("two by any", x, 1, 2, 3);
        x.choose(3, 1);
        dueLeft("of both heads", x, 1, 3);
        x.choose(2, 2);
        dueLeft("one shut out", x, 1);
        x.choose(0, 2);
        dueLeft("wanted, then shut out", x);
        x.choose(0, 0);
        x.choose(1, 2);
        x.choose(2, 1);
        dueLeft("wanted under what is shut out", x);
        x.choose(1, 0);
        dueLeft("no more", x, 3);
        x = sieve(STOCK);
        x.choose(0, 2);
        x.choose(1, 2);
        dueLeft("only shut out", x, 40);
        x.drop(40);
        dueLeft("all dropped or shut out", x);
        dueLeft("without records", sieve("head hh many;value va;"), new int[0]);
        x = sieve("head ha many;value va;head hb many;value vb;record 0 0 va;record 32 0 va;record 63 0 va;");
        x.choose(0, 1);
        dueLeft("first and last of a block", x, 0, 32, 63);
        x.choose(1, 1);
        dueLeft("none of them is of the other head", x);
        x = sieve("head ha single;value va;head hb single;value vb;head hc single;value vc;head hd single;value vd;"
            + "record 1 0 va vb vc vd;record 2 0 va vb vc;record 3 0 va vb;record 4 0 va;record 5 0;");
        for (int value = 0; value < 4; value++) {
            due("so many left, " + value + " heads with wanted ones", x.count(3), 5 - value);
            x.choose(value, 1);
        }
        dueLeft("four heads with wanted ones", x, 1);
        x = sieve("head ha many;value va;" + recordLines(32, ""));
        dueLeft("a full block", x, upFrom(0, 32));
        x.choose(0, 1);
        dueLeft("none of a full block", x);
    }

    private static void counts() {
        says("COUNT of a VALUE: how many in its SET would be LEFT, if of its HEAD, if that goes by ANY, nothing were WANTED.");
        FacetSieve x = sieve(STOCK);
        dueAll("count, nothing chosen", x, 7, 2, 2, 1, 2, 1);
        x.choose(0, 1);
        dueAll("count, ab wanted", x, 7, 2, 2, 1, 1, 1);
        x.choose(3, 1);
        dueAll("count, ab and ba wanted", x, 7, 1, 1, 1, 1, 1);
        x.go(0, true);
        dueAll("count, by all", x, 7, 1, 0, 0, 1, 1);
        x.choose(0, 2);
        dueAll("count, ab shut out", x, 7, 0, 1, 1, 1, 0);
        x.go(0, false);
        dueAll("count, ab shut out, by any", x, 7, 0, 1, 1, 1, 0);
        says("AHEAD of a VALUE: how many would be LEFT, if it were WANTED, too (SHUT OUT no more).");
        x = sieve(STOCK);
        dueAll("ahead, nothing chosen", x, 8, 2, 2, 1, 2, 1);
        x.choose(0, 1);
        dueAll("ahead, ab wanted", x, 8, 2, 3, 3, 1, 1);
        x.go(0, true);
        dueAll("ahead, by all", x, 8, 2, 1, 0, 1, 1);
        x.choose(0, 2);
        dueAll("ahead, ab shut out", x, 8, 2, 1, 1, 1, 0);
        x.choose(1, 1);
        dueAll("ahead, ac wanted, by all", x, 8, 1, 1, 1, 1, 0);
        x.go(0, false);
        dueAll("ahead, ac wanted, by any", x, 8, 3, 1, 1, 1, 0);
    }

    private static void dueAll(String what, FacetSieve x, int asking, int... wants) {
        for (int value = 0; value < wants.length; value++) {
            due(what + ": " + value, x.value(value, asking), wants[value]);
        }
    }

    private static void dueTold(String what, FacetSieve x, boolean idle, int... values) {
        due(what + ": how many", x.count(idle ? 13 : 12), values.length);
        for (int k = 0; k < values.length; k++) {
            due(what + ": " + k, x.told(k, idle), values[k]);
        }
        due(what + ": behind the last", x.told(values.length, idle), NONE);
        due(what + ": ahead of the first", x.told(-1, idle), NONE);
    }

    private static void shownAndTold() {
        says("SHOWN: those LEFT, of greater RANK ahead, of like ones by numbers.");
        FacetSieve x = sieve("record 9 999;record 8 998;record 255 999;record 0 0;record 100 0;record 7 1;");
        int[] shown = {9, 255, 8, 7, 0, 100};
        for (int k = 0; k < shown.length; k++) {
            due("shown " + k, x.left(k, true), shown[k]);
        }
        due("shown 6", x.left(6, true), NONE);
        x.rank(0, 999);
        due("0 ahead of 9", x.left(0, true), 0);
        due("9 then", x.left(1, true), 9);
        due("255 then", x.left(2, true), 255);
        x = sieve("record 7 1;record 5 0;record 6 999;");
        for (int rank : new int[] {2, 3, 4, 5, 8, 9, 16, 32, 64, 128, 255, 256, 257, 511, 512, 513, 767, 768, 769, 998}) {
            due("rank " + rank, x.rank(5, rank), 0);
            due("behind 999", x.left(1, true), 5);
            due("ahead of 1", x.left(2, true), 7);
        }
        says("SURE: VALUES not CHOSEN whose SET has all that are LEFT (if any is).");
        x = sieve(STOCK);
        dueTold("nothing chosen", x, false);
        x.choose(2, 1);
        dueTold("3 is left", x, false, 1, 3);
        x.choose(3, 1);
        dueTold("one of them wanted", x, false, 1);
        x.choose(1, 2);
        dueTold("nothing is left", x, false);
        x = sieve("head hh many;value va;value vb;record 1 1 va vb;record 2 2 va vb;record 3 3 va;");
        dueTold("all but one is not all", x, false, 0);
        x.drop(3);
        dueTold("all", x, false, 0, 1);
        says("IDLE: VALUES not CHOSEN whose AHEAD is 0.");
        x = sieve(STOCK);
        dueTold("nothing chosen", x, true);
        x.choose(2, 1);
        dueTold("bc", x, true, 4);
        x.go(0, true);
        dueTold("ab, bc", x, true, 0, 4);
        x.choose(4, 2);
        dueTold("bc is chosen", x, true, 0);
        x.choose(4, 1);
        dueTold("nothing is left, of any ba adds 3", x, true, 0, 1);
        dueTold("no records", sieve("head hh many;value va;value vb;"), true, 0, 1);
        says("PARTING: the VALUE not CHOSEN by which LEFT parts best: how many LEFT in its SET and how many not: the greater of "
            + "both is least; of several the least VALUE.");
        x = sieve("head hh many;value va;value vb;value vc;value vd;record 1 0 va vc vd;record 2 0 va vc;record 3 0 va vb;"
            + "record 4 0;record 5 0;");
        due("3 of 5 is as good as 2 of 5", x.count(14), 0);
        x.choose(0, 2);
        due("of two none parts: the least", x.count(14), 1);
        x.choose(0, 0);
        x.untag(3, 0);
        x.tag(4, 1);
        x.choose(0, 1);
        due("1 of 2", x.count(14), 3);
        x.choose(3, 1);
        due("not a chosen one", x.count(14), 1);
        x.choose(1, 2);
        due("the only one not chosen", x.count(14), 2);
        x.choose(2, 1);
        due("all are chosen", x.count(14), NONE);
    }

    private static void workAndAlike() {
        says("WORK of and, or, less of two SETS: BLOCK by BLOCK, of and: where both have a BOX: both SIZES; of less: where the "
            + "first one has: its SIZE and the other one's, if there is any; of or: SIZES of all BOXES of both.");
        // va: 3 in block 0, 1 in block 1; vb: 1 in block 0, 5 apart in block 2; vc: none.
        FacetSieve x = sieve("head hh many;value va;value vb;value vc;record 0 0 va vb;record 1 0 va;record 2 0 va;"
            + "record 32 0 va;record 64 0 vb;record 66 0 vb;record 68 0 vb;record 70 0 vb;record 72 0 vb;");
        due("and", x.both(0, 1, 3), 2 + 1);
        due("or", x.both(0, 1, 4), 2 + 1 + 1 + 4);
        due("less", x.both(0, 1, 5), 2 + 1 + 1);
        due("less the other way", x.both(1, 0, 5), 1 + 2 + 4);
        due("and of none", x.both(0, 2, 3), 0);
        due("or of none", x.both(0, 2, 4), 3);
        due("less none", x.both(0, 2, 5), 3);
        due("none less", x.both(2, 0, 5), 0);
        due("none or none", x.both(2, 2, 4), 0);
        says("WORK of a QUESTION: of all its ands, ors, lesses as they are done (each of SETS as they come, in BOXES of their "
            + "own).");
        work("red", 0);
        work("[[all]]", 0);
        work("red and car", 2 + 2);
        work("red and blue", 2 + 1);
        work("blue or red", 1 + 2 + 1);
        work("red less car", 2 + 2 + 1);
        work("blue less blue and red", 1 + 1);
        // all: {0, 1, 2} is a row, of size 2; {0, 1} and {2} are lists.
        work("all or all", 2 + 1 + 2 + 1);
        work("red or blue less all", 1 + 2 + 1 + 2);
        work("[red or blue] less all", 3 + 1 + 2 + 1 + 2 + 1);
        work("car or blue or car", 2 + 1 + 2 + 2);
        FacetSieve each = sieve(SHOP);
        ask(each, "red and car");
        ask(each, "red and blue");
        due("of the latest alone", each.asked(1), 2 + 1);
        says("ALIKE of two VALUES: how many RECORDS are in both SETS by how many are in either (0 by 1, if none is).");
        x = sieve("head hh many;value va;value vb;value vc;value vd;value ve;record 1 0 va vb vc;record 2 0 va vb vc;"
            + "record 3 0 va vc;record 4 0 vb vc;");
        due("3 of 4 is more than 2 of 4", x.alike(0), 2);
        due("of vc the least of two", x.alike(2), 0);
        due("none in either", x.alike(3), 0);
        x.drop(1);
        x.drop(2);
        due("1 of 2, none else", x.alike(1), 2);
        due("0 by 1 is as alike as 0 by 2", x.alike(4), 0);
        x = sieve("head hh many;value va;value vb;value vc;record 1 0 va vb vc;record 2 0 vb;");
        due("1 of 1 is more than 1 of 2", x.alike(0), 2);
    }

    private static void named(FacetSieve x, int record, int... values) {
        due("how many name " + record, x.named(record, NONE), values.length);
        for (int k = 0; k < values.length; k++) {
            due("name " + k + " of " + record, x.named(record, k), values[k]);
        }
        due("behind the last of " + record, x.named(record, values.length), -2);
        due("k -2 of " + record, x.named(record, -2), -2);
    }

    private static void namedOnes() {
        says("NAMED: the fewest VALUES, 3 at most, whose SETS have just that RECORD in common; of as few the first by VALUES, "
            + "rising (0 VALUES: it is the only one THERE).");
        FacetSieve x = sieve("head hh many;value va;value vb;value vc;value vd;value ve;"
            + "record 1 0 va vb vc vd ve;record 2 0 va vb vc;record 3 0 va vb vd;record 4 0 va vc vd;record 5 0 vb vc vd;"
            + "record 6 0 ve;record 7 0;");
        named(x, 1, 0, 4);
        x.untag(1, 4);
        due("four would be needed", x.named(1, NONE), -2);
        due("no first", x.named(1, 0), -2);
        due("no value at all", x.named(7, NONE), -2);
        named(x, 6, 4);
        x.drop(2);
        named(x, 1, 0, 1, 2);
        x.undo();
        x.drop(4);
        named(x, 1, 0, 2, 3);
        x.undo();
        x.drop(5);
        named(x, 1, 1, 2, 3);
        x.drop(1);
        named(x, 2, 1, 2);
        named(x, 3, 1, 3);
        named(x, 4, 2, 3);
        x.drop(4);
        named(x, 2, 2);
        named(x, 3, 3);
        x.drop(2);
        named(x, 3, 0);
        x.drop(6);
        due("two are there", x.named(7, NONE), -2);
        x.drop(3);
        named(x, 7);
        x.add(255, 0);
        due("no more the only one", x.named(7, NONE), -2);
        x = sieve("head hh single;value va;value vb in va;value vc in vb;record 1 0 vc;record 2 0 vc;record 3 0 vb;");
        due("by sets, not tags", x.named(1, NONE), -2);
        x.drop(2);
        named(x, 1, 2);
        due("3 is in two sets of others, too", x.named(3, NONE), -2);
        x.drop(1);
        x.add(1, 0);
        named(x, 3, 0);
    }

    // ---- terms 3

    private static void acts() {
        in("Terms 3");
        says("ACTS: ADD (a RECORD is THERE, without TAGS), DROP (it is no more, nor its TAGS), TAG, UNTAG, RANK, CHOOSE, GO "
            + "(ANY or ALL).");
        FacetSieve x = sieve(STOCK);
        due("add", x.add(0, 1), 0);
        due("there", x.record(0, 0), 1);
        due("without tags", x.record(0, 1), 0);
        due("tags in all", x.count(9), 7);
        due("drop", x.drop(2), 0);
        due("no more", x.record(2, 0), NONE);
        due("nor its tags", x.count(9), 4);
        due("added anew", x.add(2, 1), 0);
        due("without tags anew", x.record(2, 1), 0);
        due("tag", x.tag(2, 0), 0);
        due("untag", x.untag(2, 0), 0);
        due("rank", x.rank(2, 2), 0);
        due("choose", x.choose(0, 1), 0);
        due("go", x.go(0, true), 0);
        due("acts", x.count(10), 8);
        says("REFUSED: 1 it can't be: no such RECORD (0 .. 255), VALUE, HEAD, number;");
        for (int record : new int[] {-1, 256, LEAST, MOST}) {
            due("add " + record, x.add(record, 0), 1);
            due("drop " + record, x.drop(record), 1);
            due("tag " + record, x.tag(record, 0), 1);
            due("untag " + record, x.untag(record, 0), 1);
            due("rank " + record, x.rank(record, 0), 1);
        }
        for (int value : new int[] {-1, 5, 20, 32, LEAST, MOST}) {
            due("tag 1 " + value, x.tag(1, value), 1);
            due("untag 1 " + value, x.untag(1, value), 1);
            due("choose " + value, x.choose(value, 1), 1);
        }
        for (int head : new int[] {-1, 2, 4, LEAST, MOST}) {
            due("go " + head, x.go(head, true), 1);
        }
        for (int number : new int[] {-1, 1000, LEAST, MOST}) {
            due("add 9 " + number, x.add(9, number), 1);
            due("rank 1 " + number, x.rank(1, number), 1);
        }
        for (int how : new int[] {-1, 3, LEAST, MOST}) {
            due("choose 1 " + how, x.choose(1, how), 1);
        }
        due("nothing came of it", x.count(10), 8);
    }

    private static void refusals() {
        says("2 THERE, or tagged, or so already (of 3 none);");
        FacetSieve x = sieve(STOCK);
        due("add 1", x.add(1, 5), 2);
        due("tag 1 0", x.tag(1, 0), 2);
        due("tag 1 3, of a single head", x.tag(1, 3), 2);
        due("rank 1 5", x.rank(1, 5), 2);
        due("choose 0 0", x.choose(0, 0), 2);
        due("go 0 any", x.go(0, false), 2);
        due("no level 1 of 2", x.why(1, 0), 0);
        due("tag above", x.tag(3, 1), 0);
        says("3 not THERE, or not tagged;");
        due("drop 4", x.drop(4), 3);
        due("tag 4 0", x.tag(4, 0), 3);
        due("untag 4 0", x.untag(4, 0), 3);
        due("rank 4 5", x.rank(4, 5), 3);
        due("untag 1 4", x.untag(1, 4), 3);
        due("untag 2 2", x.untag(2, 2), 3);
        due("untag 40 0", x.untag(40, 0), 3);
        due("no level 1 of 3", x.why(1, 0), 0);
        says("4 SINGLE: of 5 HELD by a VALUE");
        due("tag 1 4", x.tag(1, 4), 4);
        due("reason", x.why(0, 0), 4);
        due("cause", x.why(1, 0), 5);
        due("value", x.why(1, 1), 3);
        due("tag 2 3", x.tag(2, 3), 4);
        due("value of the other", x.why(1, 1), 4);
        due("tag 40 3", x.tag(40, 3), 0);
        due("tag 40 4", x.tag(40, 4), 4);
        due("untag 40 3", x.untag(40, 3), 0);
        due("tag 40 4 then", x.tag(40, 4), 0);
        says("(asked in the order 1, 3, 2, 4).");
        due("no such rank, there", x.add(1, 1000), 1);
        due("no such rank, not there", x.rank(4, 1000), 1);
        due("no such rank, there", x.rank(1, -1), 1);
        due("no such value, not there", x.tag(4, 5), 1);
        due("no such value, not there, untag", x.untag(4, 5), 1);
        due("no such record nor value", x.tag(256, 5), 1);
        due("not there, its old tag", x.drop(1), 0);
        due("not there ahead of tagged", x.tag(1, 3), 3);
        due("not there ahead of single", x.tag(1, 4), 3);
        due("not there ahead of that rank", x.rank(1, 5), 3);
        due("not there ahead of rank 0", x.rank(4, 0), 3);
        due("tagged ahead of single", x.tag(3, 3), 2);
        due("no such how, so already", x.choose(0, -1), 1);
    }

    private static void acted() {
        says("The latest 10 that were not REFUSED can be UNDONE.");
        FacetSieve x = sieve(STOCK);
        for (int i = 1; i <= 11; i++) {
            due("add " + i, x.add(100 + i, i), 0);
            x.add(100 + i, i);
            due("acts " + i, x.count(10), Math.min(i, 10));
        }
        for (int i = 9; i >= 5; i--) {
            due("undo to " + i, x.undo(), i);
        }
        for (int i = 6; i <= 12; i++) {
            due("choose, then " + i, x.choose(0, i % 2 + 1), 0);
            due("acts then " + i, x.count(10), Math.min(i, 10));
        }
        for (int i = 9; i >= 0; i--) {
            due("undo once more to " + i, x.undo(), i);
        }
        due("no more", x.undo(), NONE);
        due("not chosen", x.value(0, 9), 0);
        due("the third stays", x.record(103, 0), 3);
        due("the fourth does not", x.record(104, 0), NONE);
        says("scheme() without a FAULT, again() leave none.");
        x.image(0);
        x.add(200, 0);
        x.add(201, 0);
        due("scheme with a fault", scheme(x, "zz"), NONE);
        due("leaves them", x.count(10), 2);
        due("again of no image", x.again(1), false);
        due("leaves them, too", x.count(10), 2);
        due("question", ask(x, "all"), 9);
        due("leaves them, too", x.count(10), 2);
        due("image", x.image(1), true);
        due("leaves them, too", x.count(10), 2);
        due("again", x.again(1), true);
        due("leaves none", x.count(10), 0);
        due("none", x.undo(), NONE);
        due("there they stay", x.record(201, 0), 0);
        x.drop(201);
        due("scheme", scheme(x, ""), 0);
        due("leaves none", x.count(10), 0);
        due("none", x.undo(), NONE);
        due("nothing came back", x.count(2), 0);
    }

    // ---- promises

    private static void promises1To3() {
        in("Promise 1");
        says("No HEADS, no RECORDS; no images.");
        FacetSieve x = new FacetSieve();
        for (int what = 0; what <= 13; what++) {
            due("count " + what, x.count(what), 0);
        }
        due("count 14", x.count(14), NONE);
        for (int k = -1; k <= 3; k++) {
            due("again " + k, x.again(k), false);
        }
        due("head", x.head(0, 0), NONE);
        due("value", x.value(0, 0), NONE);
        due("record", x.record(0, 0), NONE);
        due("drop", x.drop(0), 3);
        due("tag", x.tag(0, 0), 1);
        due("choose", x.choose(0, 0), 1);
        due("go", x.go(0, false), 1);
        in("Promise 2");
        says("The tape: twenty bytes come behind it, of each number the highest first: how many it has.");
        x = new FacetSieve();
        due("first", x.feed(0x68656164, 0x20687565, 0x206d616e, 0x793b7661, 0x6c756520), 20);
        due("second", x.feed(0x7265643b, 0x7265636f, 0x72642031, 0x20323b20, 0x20202020), 40);
        due("scheme", x.scheme(), 1);
        due("rank", x.record(1, 0), 2);
        for (int at = 0; at < 20; at++) {
            int[] numbers = {0x20202020, 0x20202020, 0x20202020, 0x20202020, 0x20202020};
            numbers[at / 4] ^= (0x20 ^ 0xff) << 8 * (3 - at % 4);
            x.feed(numbers[0], numbers[1], numbers[2], numbers[3], numbers[4]);
            due("a byte of 255", x.scheme(), NONE);
            due("its place", x.fault(1), at);
        }
        says("NONE, and nothing comes, if there would be more than 600.");
        x = new FacetSieve();
        for (int n = 20; n <= 600; n += 20) {
            due("feed to " + n, x.feed(0x20202020, 0x20202020, 0x20202020, 0x20202020, 0x20202020), n);
        }
        due("feed to 620", x.feed(0, 0, 0, 0, 0), NONE);
        due("bytes", x.count(11), 600);
        due("end 581", x.end(581), 581);
        due("feed to 601", x.feed(0, 0, 0, 0, 0), NONE);
        due("bytes", x.count(11), 581);
        due("end 580", x.end(580), 580);
        due("feed to 600", x.feed(0x20202020, 0x20202020, 0x20202020, 0x20202020, 0x2020202a), 600);
        due("scheme", x.scheme(), NONE);
        due("place", x.fault(1), 599);
        in("Promise 3");
        says("The tape has its first n bytes alone: n.");
        feed(x, "record 7 7;record 8");
        due("end 20", x.end(20), 20);
        due("end 19", x.end(19), 19);
        due("bytes", x.count(11), 19);
        due("end 11", x.end(11), 11);
        feed(x, " record 9 9;");
        due("comes behind them", x.count(11), 31);
        due("scheme", x.scheme(), 2);
        due("cut", x.record(8, 0), NONE);
        due("behind", x.record(9, 0), 9);
        due("end 0", x.end(0), 0);
        says("NONE if it has not so many, or n is below 0.");
        for (int n : new int[] {1, 600, 601, -1, LEAST, MOST}) {
            due("end " + n, x.end(n), NONE);
        }
        feed(x, "record 7 7;");
        due("end 21", x.end(21), NONE);
        due("end -1", x.end(-1), NONE);
        due("bytes", x.count(11), 20);
        due("end 20", x.end(20), 20);
    }

    private static void promises4To5() {
        in("Promise 4");
        says("The tape is taken (and is empty then) as a SCHEME: all is as told, nothing CHOSEN, all HEADS by ANY: how many "
            + "RECORDS are THERE.");
        FacetSieve x = sieve(STOCK);
        x.choose(0, 1);
        x.choose(4, 2);
        x.go(1, true);
        due("fifty", scheme(x, recordLines(50, "")), 50);
        due("tape", x.count(11), 0);
        due("heads", x.count(0), 0);
        due("values", x.count(1), 0);
        due("the old ones are gone", x.record(255, 0), NONE);
        due("tags too", x.count(9), 0);
        due("back", scheme(x, STOCK), 4);
        for (int value = 0; value < 5; value++) {
            due("not chosen " + value, x.value(value, 9), 0);
        }
        due("by any", x.head(1, 2), 0);
        due("nothing is on the tape", x.scheme(), 0);
        due("nothing is told", x.count(0), 0);
        due("no tags", x.count(9), 0);
        due("fewer values", scheme(x, "head aa many;value ab;head bb many;record 9 0 ab;"), 1);
        due("of head 0", x.head(0, 1), 1);
        due("of head 1", x.head(1, 1), 0);
        due("one tag", x.count(9), 1);
        due("one set", x.count(4), 1);
        says("NONE: a FAULT (all else stays).");
        x = sieve(STOCK);
        ask(x, "ab");
        x.image(1);
        x.choose(0, 1);
        x.choose(4, 2);
        x.go(1, true);
        x.tag(1, 4);
        due("fault", scheme(x, "head zz many;value zy;record 1 1 zy;record 1 1;"), NONE);
        due("tape", x.count(11), 0);
        due("heads", x.count(0), 2);
        due("values", x.count(1), 5);
        due("records", x.count(2), 4);
        due("tags", x.count(9), 7);
        due("wanted", x.value(0, 9), 1);
        due("shut out", x.value(4, 9), 2);
        due("by all", x.head(1, 2), 1);
        due("acts", x.count(10), 3);
        due("asked", x.asked(0), 2);
        due("why", x.why(1, 1), 3);
        due("rank", x.record(1, 0), 5);
        due("undo", x.undo(), 2);
        due("image", x.again(1), true);
        due("as it was", x.value(0, 9), 0);
        in("Promise 5");
        says("The tape is taken (and is empty then) as a QUESTION: how many RECORDS.");
        x = sieve(STOCK);
        due("none", ask(x, "ad and ab"), 0);
        due("tape", x.count(11), 0);
        due("one", ask(x, "ad"), 1);
        due("all", ask(x, "all"), 4);
        due("of a new object", ask(new FacetSieve(), "all"), 0);
        says("NONE: a FAULT.");
        due("empty tape", x.ask(), NONE);
        due("fault", x.fault(0), 1);
        due("place", x.fault(1), 0);
        due("fault", ask(x, "ab or zz"), NONE);
        due("tape", x.count(11), 0);
        says("(Nothing changes but what asked() tells.)");
        due("asked stays", x.asked(0), 4);
        x.choose(2, 1);
        x.tag(1, 4);
        due("asked of all, not of those left", ask(x, "all less ad"), 3);
        due("records", x.count(2), 4);
        due("left", x.count(3), 1);
        due("acts", x.count(10), 1);
        due("why", x.why(0, 0), 4);
        due("size", x.count(4), 8);
    }

    private static FacetSieve full() {
        FacetSieve x = sieve(recordLines(50, ""));
        for (int record = 50; record < 256; record++) {
            x.add(record, record);
        }
        return x;
    }

    private static void promises6To7() {
        in("Promise 6");
        says("Of the latest ask() without a FAULT, what 0: how many RECORDS, 1: its WORK, 2: SIZE of its SET, 10 + k: the k-th "
            + "RECORD.");
        FacetSieve x = full();
        due("all", ask(x, "all or all"), 256);
        due("how many", x.asked(0), 256);
        due("work", x.asked(1), 32);
        due("size", x.asked(2), 16);
        for (int record : new int[] {0, 31, 32, 33, 127, 128, 254, 255}) {
            due("record " + record, x.asked(10 + record), record);
        }
        due("record 256", x.asked(266), NONE);
        says("NONE: there was none, not so many, another what.");
        FacetSieve none = sieve(STOCK);
        ask(none, "zz");
        for (int what : new int[] {0, 1, 2, 10}) {
            due("there was none " + what, none.asked(what), NONE);
        }
        due("an empty one", ask(none, "ab and ad"), 0);
        due("none in it", none.asked(0), 0);
        due("its work", none.asked(1), 2 + 1);
        due("its size", none.asked(2), 0);
        due("no first", none.asked(10), NONE);
        due("one", ask(none, "ad"), 1);
        due("the first", none.asked(10), 3);
        due("no second", none.asked(11), NONE);
        for (int what : new int[] {-1, 3, 9, LEAST, MOST}) {
            due("another what " + what, none.asked(what), NONE);
        }
        says("(As it was then.)");
        none.drop(3);
        due("dropped, yet", none.asked(10), 3);
        none.add(4, 0);
        none.tag(4, 2);
        due("one more, yet", none.asked(0), 1);
        due("and the size", none.asked(2), 1);
        none.undo();
        scheme(none, "");
        due("no record is there, yet", none.asked(10), 3);
        ask(none, "X");
        due("a fault behind it, yet", none.asked(0), 1);
        due("the latest", ask(none, "all"), 0);
        due("tells", none.asked(0), 0);
        in("Promise 7");
        says("Of the latest scheme() or ask(), what 0: the FAULT, 0 without, 1: its place, NONE without.");
        x = new FacetSieve();
        due("of none", x.fault(0), 0);
        due("place of none", x.fault(1), NONE);
        scheme(x, "value va;");
        dueFault(x, "a scheme's", 4, 0);
        ask(x, "all and");
        dueFault(x, "a question's", 1, 7);
        x.feed(0, 0, 0, 0, 0);
        x.end(0);
        x.add(256, 0);
        dueFault(x, "no other call's", 1, 7);
        ask(x, "all");
        dueFault(x, "none of a question", 0, NONE);
        ask(x, "zz");
        dueFault(x, "a question's at 0", 3, 0);
        scheme(x, "");
        dueFault(x, "none of a scheme", 0, NONE);
        says("NONE for another what.");
        ask(x, "zz");
        for (int what : new int[] {-1, 2, 10, LEAST, MOST}) {
            due("fault " + what, x.fault(what), NONE);
        }
    }

    private static void promises8To12() {
        in("Promise 8");
        says("ADD.");
        FacetSieve x = full();
        due("drop 255", x.drop(255), 0);
        due("drop 0", x.drop(0), 0);
        due("add 0, rank 999", x.add(0, 999), 0);
        due("its rank", x.record(0, 0), 999);
        due("add 255, rank 0", x.add(255, 0), 0);
        due("its rank", x.record(255, 0), 0);
        due("all there", x.count(2), 256);
        due("add 255 again", x.add(255, 1), 2);
        due("the rank stays", x.record(255, 0), 0);
        due("add 256", x.add(256, 0), 1);
        due("add -1", x.add(-1, 0), 1);
        in("Promise 9");
        says("DROP.");
        due("drop 0", x.drop(0), 0);
        due("drop 0 again", x.drop(0), 3);
        due("drop 255", x.drop(255), 0);
        due("drop 255 again", x.drop(255), 3);
        due("drop 256", x.drop(256), 1);
        due("drop -1", x.drop(-1), 1);
        due("254 are there", x.count(2), 254);
        x = sieve("head hh single;value va;record 1 1 va;");
        due("drop the only one", x.drop(1), 0);
        due("none there", x.count(2), 0);
        due("no tag", x.value(0, 4), 0);
        due("no box", x.count(5), 0);
        in("Promise 10");
        says("TAG.");
        x = sieve("head ha many;" + valueLines(0, 19, false) + "head hb single;" + valueLines(19, 20, false)
            + "record 0 0;record 255 0;");
        for (int value = 0; value < 20; value++) {
            due("tag 255 " + value, x.tag(255, value), 0);
            due("how many", x.record(255, 1), value + 1);
        }
        due("tag 255 20", x.tag(255, 20), 1);
        due("tag 255 -1", x.tag(255, -1), 1);
        due("tag 255 19", x.tag(255, 19), 2);
        due("tag 256 0", x.tag(256, 0), 1);
        due("tag 1 0", x.tag(1, 0), 3);
        due("the twentieth", x.record(255, 29), 19);
        due("in all sets", x.spread(20), 1);
        in("Promise 11");
        says("UNTAG.");
        due("untag 0 0", x.untag(0, 0), 3);
        due("untag 255 20", x.untag(255, 20), 1);
        due("untag 255 -1", x.untag(255, -1), 1);
        for (int value = 19; value >= 0; value--) {
            due("untag 255 " + value, x.untag(255, value), 0);
            due("again " + value, x.untag(255, value), 3);
        }
        due("none", x.record(255, 1), 0);
        due("in none", x.spread(0), 2);
        in("Promise 12");
        says("RANK (2: it is that already).");
        due("rank 0 0", x.rank(0, 0), 2);
        due("rank 0 1", x.rank(0, 1), 0);
        due("rank 0 999", x.rank(0, 999), 0);
        due("rank 0 999 again", x.rank(0, 999), 2);
        due("rank 0 1000", x.rank(0, 1000), 1);
        due("rank 0 -1", x.rank(0, -1), 1);
        due("it is", x.record(0, 0), 999);
        due("rank 1 0", x.rank(1, 0), 3);
        due("rank 256 0", x.rank(256, 0), 1);
        due("rank 255 999", x.rank(255, 999), 0);
        due("first by number", x.left(0, true), 0);
        due("undo", x.undo(), 9);
        due("it was 0", x.record(255, 0), 0);
    }

    private static void promises13To14() {
        in("Promise 13");
        says("CHOOSE: a VALUE is 0 not, 1 WANTED, 2 SHUT OUT (2: it is so already).");
        FacetSieve x = sieve("head ha many;" + valueLines(0, 20, false));
        for (int value : new int[] {0, 19}) {
            for (int how : new int[] {0, 1, 2}) {
                due("choose " + value + " " + how, x.choose(value, how), how == 0 ? 2 : 0);
                due("again " + value + " " + how, x.choose(value, how), 2);
                due("chosen", x.value(value, 9), how);
            }
        }
        due("choose 20", x.choose(20, 0), 1);
        due("choose -1", x.choose(-1, 0), 1);
        due("choose 0 3", x.choose(0, 3), 1);
        due("choose 0 -1", x.choose(0, -1), 1);
        due("four acts", x.count(10), 4);
        in("Promise 14");
        says("GO: a HEAD goes by ANY, or (all) by ALL (2: it does already).");
        x = sieve("head ha many;head hb many;head hc single;head hd single;");
        for (int head : new int[] {0, 3}) {
            due("go any", x.go(head, false), 2);
            due("go all", x.go(head, true), 0);
            due("go all again", x.go(head, true), 2);
            due("by all", x.head(head, 2), 1);
        }
        due("by any", x.head(1, 2), 0);
        due("go 4", x.go(4, false), 1);
        due("go -1", x.go(-1, true), 1);
        due("two acts", x.count(10), 2);
    }

    private static void dueWhy(String what, FacetSieve x, int reason, int value, int cause, int holder) {
        due(what + ": reason", x.why(0, 0), reason);
        due(what + ": its value", x.why(0, 1), value);
        due(what + ": what it comes of", x.why(1, 0), cause);
        due(what + ": that one's value", x.why(1, 1), holder);
    }

    private static void promise15() {
        in("Promise 15");
        says("Why the latest ACT was REFUSED: level 0, or what it comes of, level 1 (of 4): what 0: the reason, 1: the VALUE (of "
            + "5), else NONE.");
        FacetSieve x = sieve(STOCK);
        x.tag(1, 5);
        dueWhy("reason 1", x, 1, NONE, 0, 0);
        x.tag(1, 0);
        dueWhy("reason 2", x, 2, NONE, 0, 0);
        x.tag(4, 0);
        dueWhy("reason 3", x, 3, NONE, 0, 0);
        x.tag(1, 4);
        dueWhy("reason 4", x, 4, NONE, 5, 3);
        x.tag(2, 3);
        dueWhy("reason 4 once more", x, 4, NONE, 5, 4);
        x.undo();
        x.end(5);
        ask(x, "X");
        scheme(x, "X");
        x.again(2);
        dueWhy("what is no act", x, 4, NONE, 5, 4);
        x.choose(0, 0);
        dueWhy("reason 2 behind 4", x, 2, NONE, 0, 0);
        x = sieve("head hh single;value va;value vb;record 1 1 va;");
        x.tag(1, 1);
        dueWhy("held by value 0", x, 4, NONE, 5, 0);
        says("0: it was not, there is no such level.");
        x.rank(1, 2);
        dueWhy("not refused", x, 0, 0, 0, 0);
        dueWhy("no act yet", new FacetSieve(), 0, 0, 0, 0);
        says("NONE: another level (0, 1), what.");
        x.tag(1, 1);
        for (int n : new int[] {-1, 2, LEAST, MOST}) {
            due("level " + n, x.why(n, 0), NONE);
            due("level " + n + ", what 1", x.why(n, 1), NONE);
            due("what " + n, x.why(0, n), NONE);
            due("what " + n + ", level 1", x.why(1, n), NONE);
        }
        x.rank(1, 3);
        due("level 2 of none", x.why(2, 0), NONE);
        due("what 2 of none", x.why(0, 2), NONE);
    }

    private static void promise16() {
        in("Promise 16");
        says("The latest ACT is UNDONE: how many more can be.");
        FacetSieve x = sieve(STOCK);
        x.add(9, 9);
        x.tag(9, 0);
        x.untag(2, 1);
        x.rank(9, 8);
        x.drop(9);
        x.choose(0, 2);
        x.choose(0, 1);
        x.go(0, true);
        due("go", x.undo(), 7);
        due("by any", x.head(0, 2), 0);
        due("choose", x.undo(), 6);
        due("shut out", x.value(0, 9), 2);
        due("choose", x.undo(), 5);
        due("not chosen", x.value(0, 9), 0);
        due("drop", x.undo(), 4);
        due("rank of it", x.record(9, 0), 8);
        due("tag of it", x.record(9, 10), 0);
        due("set", x.has(9, 0), true);
        due("rank", x.undo(), 3);
        due("rank then", x.record(9, 0), 9);
        due("untag", x.undo(), 2);
        due("tagged", x.has(2, 1), true);
        due("tag", x.undo(), 1);
        due("not tagged", x.has(9, 0), false);
        due("add", x.undo(), 0);
        due("not there", x.record(9, 0), NONE);
        says("NONE: none can.");
        due("undo", x.undo(), NONE);
        due("once more", x.undo(), NONE);
        due("of a new object", new FacetSieve().undo(), NONE);
        x.add(1, 1);
        due("what was refused", x.undo(), NONE);
        due("stays", x.record(1, 0), 5);
        x.add(9, 9);
        due("one", x.undo(), 0);
        due("no more", x.undo(), NONE);
    }

    private static void promise17() {
        in("Promise 17");
        says("What 0: HEADS, 1: VALUES, 2: RECORDS THERE, 3: LEFT, 4: SIZE of all SETS together, 5: BOXES in all, 6: of KIND 0, "
            + "7: of KIND 1, 8: of KIND 2, 9: TAGS in all, 10: ACTS that can be UNDONE, 11: bytes on the tape, 12: SURE ones, "
            + "13: IDLE ones,");
        FacetSieve x = sieve("head ha many;value va;value vb in va;value vc;head hb single;value vd;record 0 0 vb vc vd;"
            + "record 1 0 vb;record 2 0 va;record 4 0 vc;record 6 0 vc;record 8 0 vc;record 10 0 vc;record 255 0;");
        int[] first = {2, 4, 8, 8, 2 + 2 + 4 + 1, 4, 2, 1, 1, 9, 0, 0, 0, 0};
        for (int what = 0; what < first.length; what++) {
            due("count " + what, x.count(what), first[what]);
        }
        x.choose(3, 1);
        x.go(0, true);
        x.choose(0, 2);
        x.add(0, 0);
        x.feed(0, 0, 0, 0, 0);
        x.end(3);
        int[] then = {2, 4, 8, 0, 9, 4, 2, 1, 1, 9, 3, 3, 0, 2};
        for (int what = 0; what < then.length; what++) {
            due("then count " + what, x.count(what), then[what]);
        }
        x.choose(0, 0);
        due("left then", x.count(3), 1);
        due("sure then", x.count(12), 3);
        due("idle then", x.count(13), 0);
        FacetSieve twenty = sieve("head hh many;" + valueLines(0, 20, false) + "record 0 0 va;record 1 0 va;record 2 0 va;"
            + "record 40 0 vt;record 250 0;");
        int[] sizes = {2 + 1, 2, 1, 1, 0};
        for (int what = 4; what <= 8; what++) {
            due("count " + what + " of twenty values", twenty.count(what), sizes[what - 4]);
        }
        says("14: PARTING (NONE: nothing is LEFT, no VALUE).");
        due("of one left the least", x.count(14), 0);
        x.choose(3, 2);
        due("all but record 0 are left", x.count(3), 7);
        due("vc parts them into 4 and 3", x.count(14), 2);
        x.choose(0, 2);
        x.choose(2, 2);
        dueLeft("but", x, 255);
        due("vb parts none", x.count(14), 1);
        x.drop(255);
        due("nothing is left", x.count(14), NONE);
        x = sieve("record 1 1;record 2 2;");
        due("no value", x.count(14), NONE);
        x = sieve("head hh many;value va;record 1 1;record 2 2 va;");
        due("one value", x.count(14), 0);
        x.choose(0, 1);
        due("it is chosen", x.count(14), NONE);
        says("NONE for another what.");
        for (int what : new int[] {-1, 15, 16, LEAST, MOST}) {
            due("count " + what, x.count(what), NONE);
        }
    }

    private static void promises18To19() {
        in("Promise 18");
        says("Of a HEAD, what 0: 1 if it is MANY, else 0, 1: VALUES, 2: 1 by ALL, 0 by ANY, 3: WANTED ones, 10 + i: the i-th "
            + "letter of its NAME.");
        FacetSieve x = sieve("head ab many;head abcdefgz single;" + valueLines(0, 18, false) + "head ef many;"
            + valueLines(18, 20, false) + "head gh single;");
        int[] many = {1, 0, 1, 0};
        int[] values = {0, 18, 2, 0};
        for (int head = 0; head < 4; head++) {
            due("many " + head, x.head(head, 0), many[head]);
            due("values " + head, x.head(head, 1), values[head]);
            due("by any " + head, x.head(head, 2), 0);
            due("wanted " + head, x.head(head, 3), 0);
        }
        x.choose(18, 1);
        x.choose(19, 1);
        x.choose(17, 2);
        x.go(3, true);
        int[] wanted = {0, 0, 2, 0};
        for (int head = 0; head < 4; head++) {
            due("wanted then " + head, x.head(head, 3), wanted[head]);
            due("by all " + head, x.head(head, 2), head == 3 ? 1 : 0);
        }
        for (int i = 0; i < 8; i++) {
            due("letter " + i, x.head(1, 10 + i), "abcdefgz".charAt(i));
        }
        says("NONE: there is none such (of either), another what.");
        for (int what = 18; what < 90; what++) {
            due("letter behind the last " + what, x.head(1, what), NONE);
        }
        due("second", x.head(0, 11), 'b');
        due("no third", x.head(0, 12), NONE);
        for (int head : new int[] {-1, 4, LEAST, MOST}) {
            due("head " + head, x.head(head, 0), NONE);
            due("letter of head " + head, x.head(head, 10), NONE);
        }
        for (int what : new int[] {-1, 4, 5, 9, 23, 42, LEAST, MOST}) {
            due("what " + what, x.head(0, what), NONE);
        }
        in("Promise 19");
        says("Of a VALUE, what 0: its HEAD, 1: its PARENT (NONE), 2: how many are ABOVE it, 3: RECORDS in its SET, 4: TAGS of just "
            + "it, 5: SIZE of its SET, 6: BOXES, 7: COUNT, 8: AHEAD, 9: CHOSEN (0 to 2), 10 + i: the i-th letter of its NAME.");
        x = sieve("head aa many;value ab;value abcdefgz in ab;head bb single;value ba;"
            + "record 0 0 ab;record 1 0 ab abcdefgz;record 2 0 abcdefgz ba;record 255 0 abcdefgz;");
        int[][] wants = {{0, NONE, 0, 4, 2, 3, 2, 4, 4, 0}, {0, 0, 1, 3, 3, 3, 2, 3, 3, 0}, {1, NONE, 0, 1, 1, 1, 1, 1, 1, 0}};
        for (int value = 0; value < 3; value++) {
            for (int what = 0; what < 10; what++) {
                due("value " + value + " " + what, x.value(value, what), wants[value][what]);
            }
        }
        for (int i = 0; i < 8; i++) {
            due("letter " + i, x.value(1, 10 + i), "abcdefgz".charAt(i));
        }
        says("NONE: there is none such (of either), another what.");
        for (int what = 18; what < 90; what++) {
            due("letter behind the last " + what, x.value(1, what), NONE);
        }
        due("second", x.value(0, 11), 'b');
        due("no third", x.value(0, 12), NONE);
        for (int value : new int[] {-1, 3, 20, 21, LEAST, MOST}) {
            due("value " + value, x.value(value, 0), NONE);
            due("letter of value " + value, x.value(value, 10), NONE);
        }
        for (int what : new int[] {-1, 18, 23, 42, LEAST, MOST}) {
            due("what " + what, x.value(0, what), NONE);
        }
    }

    /** A value with all 256 records: 39 told with the tag, the others added and tagged. */
    private static FacetSieve fullSet() {
        FacetSieve x = sieve("head hh many;value vv;" + recordLines(39, " vv"));
        for (int record = 39; record < 256; record++) {
            x.add(record, 0);
            x.tag(record, 0);
        }
        return x;
    }

    private static void promise20() {
        in("Promise 20");
        says("Of a BOX (VALUE, BLOCK 0 .. 7), what 0: KIND, 1: RECORDS, 2: SIZE, 3: rows of RECORDS that follow one another.");
        FacetSieve x = fullSet();
        due("the set", x.value(0, 3), 256);
        due("its size", x.value(0, 5), 16);
        due("its boxes", x.value(0, 6), 8);
        for (int block : new int[] {0, 7}) {
            due("kind", x.box(0, block, 0), 1);
            due("records", x.box(0, block, 1), 32);
            due("size", x.box(0, block, 2), 2);
            due("rows", x.box(0, block, 3), 1);
        }
        x.untag(254, 0);
        due("two rows, size 4", x.box(0, 7, 2), 4);
        due("runs ahead of bits", x.box(0, 7, 0), 1);
        x.untag(226, 0);
        due("three rows", x.box(0, 7, 3), 3);
        due("bits", x.box(0, 7, 0), 2);
        due("30 records", x.box(0, 7, 1), 30);
        due("bits' size", x.box(0, 7, 2), 4);
        says("NONE: there is none such, another what.");
        for (int n : new int[] {-1, 8, LEAST, MOST}) {
            due("block " + n, x.box(0, n, 0), NONE);
            due("value " + n, x.box(n, 0, 0), NONE);
            due("what " + n, x.box(0, 0, n), NONE);
        }
        for (int value : new int[] {1, 19, 20, 21}) {
            due("value " + value, x.box(value, 0, 0), NONE);
        }
        due("what 4", x.box(0, 0, 4), NONE);
        x = sieve("head hh many;value va;value vb;record 32 0 va;");
        for (int what = 0; what < 4; what++) {
            due("empty " + what, x.box(0, 0, what), NONE);
            due("empty behind " + what, x.box(0, 2, what), NONE);
            due("empty set " + what, x.box(1, 1, what), NONE);
        }
        due("records", x.box(0, 1, 1), 1);
    }

    private static void promises21To22() {
        in("Promise 21");
        says("Of a RECORD, what 0: RANK, 1: how many TAGS, 2: 1 if it is LEFT, else 0, 10 + k: its k-th TAG, rising.");
        FacetSieve x = sieve("head hh many;" + valueLines(0, 20, false)
            + "record 255 999 vt vs vr vq vp vo vn vm vl vk vj vi vh vg vf ve vd vc vb va;record 0 0;record 31 1 vt va;");
        due("rank", x.record(255, 0), 999);
        due("tags", x.record(255, 1), 20);
        for (int k = 0; k < 20; k++) {
            due("tag " + k, x.record(255, 10 + k), k);
        }
        due("rank 0", x.record(0, 0), 0);
        due("no tags", x.record(0, 1), 0);
        due("first of two", x.record(31, 10), 0);
        due("second of two", x.record(31, 11), 19);
        x.choose(10, 1);
        due("left", x.record(255, 2), 1);
        due("not left", x.record(31, 2), 0);
        says("NONE: it is not THERE, not so many, another what.");
        due("no 21st tag", x.record(255, 30), NONE);
        due("no third of two", x.record(31, 12), NONE);
        due("no first of none", x.record(0, 10), NONE);
        for (int record : new int[] {-1, 1, 254, 256, 287, LEAST, MOST}) {
            for (int what = 0; what < 3; what++) {
                due("record " + record + " " + what, x.record(record, what), NONE);
            }
        }
        for (int what : new int[] {-1, 3, 9, 42, LEAST, MOST}) {
            due("what " + what, x.record(255, what), NONE);
        }
        in("Promise 22");
        says("Whether a RECORD is in the SET of a VALUE.");
        due("has 255 0", x.has(255, 0), true);
        due("has 255 19", x.has(255, 19), true);
        due("has 31 1", x.has(31, 1), false);
        due("has 0 0", x.has(0, 0), false);
        due("has of none there", x.has(1, 0), false);
        for (int n : new int[] {-1, 20, 21, 32, LEAST, MOST}) {
            due("has 255 " + n, x.has(255, n), false);
        }
        for (int n : new int[] {-1, -225, 256, 287, LEAST, MOST}) {
            due("has " + n + " 0", x.has(n, 0), false);
        }
        x = sieve("head hh single;value va;value vb in va;value vc in va;record 7 0 vb;");
        due("above", x.has(7, 0), true);
        due("beside", x.has(7, 2), false);
    }

    private static void promises23To24() {
        in("Promise 23");
        says("The k-th that is LEFT, rising, or (shown) the k-th SHOWN.");
        FacetSieve x = full();
        for (int k : new int[] {0, 31, 32, 255}) {
            due("left " + k, x.left(k, false), k);
        }
        due("shown first", x.left(0, true), 255);
        due("shown 205", x.left(205, true), 50);
        due("shown 206", x.left(206, true), 0);
        due("shown last", x.left(255, true), 49);
        says("NONE: not so many.");
        for (int k : new int[] {256, -1, LEAST, MOST}) {
            due("left " + k, x.left(k, false), NONE);
            due("shown " + k, x.left(k, true), NONE);
        }
        x = sieve("head hh many;value va;record 1 0 va;record 2 5;");
        x.choose(0, 1);
        due("the only one", x.left(0, false), 1);
        due("shown", x.left(0, true), 1);
        due("no other", x.left(1, false), NONE);
        due("no other shown", x.left(1, true), NONE);
        x.choose(0, 2);
        due("the other", x.left(0, true), 2);
        x.drop(2);
        due("none", x.left(0, false), NONE);
        due("none shown", x.left(0, true), NONE);
        in("Promise 24");
        says("The k-th VALUE that is SURE, or (idle) IDLE, rising.");
        String twenty = "head hh many;" + valueLines(0, 20, true);
        x = sieve(twenty + "record 1 1 vt;");
        dueTold("all are sure", x, false, upFrom(0, 20));
        dueTold("none is idle", x, true);
        x.choose(0, 1);
        dueTold("but the first", x, false, upFrom(1, 19));
        x.choose(19, 2);
        dueTold("none is sure, nothing is left", x, false);
        dueTold("all not chosen are idle", x, true, upFrom(1, 18));
        x = sieve(twenty);
        dueTold("none is sure, nothing is there", x, false);
        dueTold("all are idle", x, true, upFrom(0, 20));
        says("NONE: not so many.");
        for (int k : new int[] {20, 21, 32, -1, LEAST, MOST}) {
            due("idle " + k, x.told(k, true), NONE);
            due("sure " + k, x.told(k, false), NONE);
        }
        due("of a new object", new FacetSieve().told(0, true), NONE);
        due("sure of a new object", new FacetSieve().told(0, false), NONE);
    }

    private static void promises25To26() {
        in("Promise 25");
        says("Of two VALUES, what 0: how many are in both SETS, 1: in either, 2: in the first, not in the second; 3, 4, 5: WORK "
            + "of and, or, less.");
        FacetSieve x = sieve(SHOP);
        int[] first = {2, 3, 1, 4, 5, 5};
        int[] turned = {2, 3, 0, 4, 5, 4};
        int[] apart = {0, 4, 3, 3, 4, 4};
        int[] same = {3, 3, 0, 6, 6, 6};
        for (int what = 0; what < 6; what++) {
            due("red, car " + what, x.both(0, 3, what), first[what]);
            due("car, red " + what, x.both(3, 0, what), turned[what]);
            due("red, blue " + what, x.both(0, 2, what), apart[what]);
            due("red, red " + what, x.both(0, 0, what), same[what]);
        }
        says("NONE: there are none such, another what.");
        for (int n : new int[] {-1, 5, 20, LEAST, MOST}) {
            due("value " + n, x.both(n, 0, 0), NONE);
            due("other " + n, x.both(0, n, 0), NONE);
            due("work with " + n, x.both(0, n, 4), NONE);
        }
        due("last value", x.both(4, 4, 0), 1);
        for (int n : new int[] {-1, 6, LEAST, MOST}) {
            due("what " + n, x.both(0, 3, n), NONE);
        }
        in("Promise 26");
        says("The other VALUE that is most ALIKE to one, of several the least.");
        due("red: dark 2 of 3, car 2 of 3", x.alike(0), 1);
        due("dark: red 2 of 3", x.alike(1), 0);
        due("blue: none", x.alike(2), 0);
        due("car: red 2 of 3, bike 1 of 2", x.alike(3), 0);
        due("bike: car 1 of 2", x.alike(4), 3);
        x.tag(33, 3);
        due("red: car, the same", x.alike(0), 3);
        says("NONE: there is no other, none such.");
        for (int n : new int[] {-1, 5, 20, LEAST, MOST}) {
            due("alike " + n, x.alike(n), NONE);
        }
        x = sieve("head hh many;value va;record 1 1 va;");
        due("no other", x.alike(0), NONE);
        due("none such", x.alike(1), NONE);
        x = sieve("head hh many;value va;value vb;");
        due("another", x.alike(0), 1);
        due("the other way", x.alike(1), 0);
        due("of a new object", new FacetSieve().alike(0), NONE);
    }

    private static void promises27To29() {
        in("Promise 27");
        says("NAMED: how many VALUES (k NONE), or the k-th.");
        FacetSieve x = sieve(SHOP);
        named(x, 0, 1, 3);
        named(x, 1, 4);
        named(x, 2, 2);
        named(sieve("record 255 0;"), 255);
        says("-2: by no three, it is not THERE; not so many.");
        due("33 is where 0 is", x.named(33, NONE), -2);
        due("its first", x.named(33, 0), -2);
        for (int record : new int[] {-1, 3, 256, LEAST, MOST}) {
            due("record " + record, x.named(record, NONE), -2);
            due("first of " + record, x.named(record, 0), -2);
        }
        for (int k : new int[] {2, 3, -2, 32, LEAST, MOST}) {
            due("k " + k, x.named(0, k), -2);
        }
        x.drop(1);
        x.drop(2);
        x.drop(33);
        named(x, 0);
        x.drop(0);
        due("none is there", x.named(0, NONE), -2);
        in("Promise 28");
        says("How many RECORDS THERE have all TAGS of a RECORD, and others perhaps (itself, too).");
        x = sieve("head hh many;value va;value vb in va;value vc;record 0 0;record 1 0 va;record 2 0 vb;record 3 0 va vb;"
            + "record 255 0 va vb vc;");
        due("of no tags all", x.likes(0), 5);
        due("va", x.likes(1), 3);
        due("vb", x.likes(2), 3);
        due("va, vb", x.likes(3), 2);
        due("itself", x.likes(255), 1);
        x.choose(2, 2);
        due("also those not left", x.likes(3), 2);
        says("NONE: it is not THERE.");
        for (int record : new int[] {-1, 4, 254, 256, LEAST, MOST}) {
            due("likes " + record, x.likes(record), NONE);
        }
        x.drop(255);
        due("dropped", x.likes(255), NONE);
        due("one less", x.likes(3), 1);
        in("Promise 29");
        says("RECORDS LEFT by how many VALUES they are in the SETS of: how many are in so many (0 .. 20).");
        x = sieve("head ha single;" + valueLines(0, 10, true) + "head hb single;" + valueLines(10, 20, true)
            + "record 0 0;record 1 0 va;record 2 0 vj vs;record 31 0 vj vt;record 255 0 vj vt;");
        int[] spread = new int[21];
        spread[0] = 1;
        spread[1] = 1;
        spread[19] = 1;
        spread[20] = 2;
        for (int many = 0; many <= 20; many++) {
            due("spread " + many, x.spread(many), spread[many]);
        }
        x.choose(19, 2);
        due("of those left, 19", x.spread(19), 1);
        due("of those left, 20", x.spread(20), 0);
        says("NONE: another number.");
        for (int many : new int[] {-1, 21, LEAST, MOST}) {
            due("spread " + many, x.spread(many), NONE);
        }
        due("of a new object", new FacetSieve().spread(0), 0);
        due("20 of a new object", new FacetSieve().spread(20), 0);
        due("21 of a new object", new FacetSieve().spread(21), NONE);
    }

    private static void promises30To31() {
        in("Promise 30");
        says("Image k (0 .. 2) is all that is (the tape, the FAULT, what was asked, WHY, too, but for what can be UNDONE), as it "
            + "is now: true; false for another k.");
        for (int k : new int[] {-1, 3, LEAST, MOST}) {
            FacetSieve none = sieve(STOCK);
            due("image " + k, none.image(k), false);
            due("again " + k, none.again(k), false);
            due("still there", none.count(2), 4);
        }
        FacetSieve x = sieve(STOCK);
        ask(x, "ab or ad");
        ask(x, "ab or zz");
        x.choose(0, 1);
        x.choose(4, 2);
        x.go(1, true);
        x.rank(1, 6);
        x.tag(1, 4);
        tell(x, "all less bc");
        due("image 2", x.image(2), true);
        due("acts stay", x.count(10), 4);
        due("the tape stays", x.count(11), 11);
        x.end(0);
        due("another question", ask(x, "bc and ac and ab"), 1);
        x.scheme();
        x.add(0, 0);
        due("image 0", x.image(0), true);
        due("acts since the scheme", x.count(10), 1);
        due("image 0 anew", x.image(0), true);
        due("again 2", x.again(2), true);
        imaged(x);
        x.drop(1);
        x.choose(0, 2);
        x.feed(0, 0, 0, 0, 0);
        due("again 2 once more", x.again(2), true);
        imaged(x);
        in("Promise 31");
        says("All that is is as image k has it: true; false if there is none such.");
        due("the tape is that one's", x.ask(), 3);
        due("last one asked", x.asked(12), 40);
        due("its work", x.asked(1), 3 + 1);
        due("again 1, never made", x.again(1), false);
        due("nothing came of it", x.count(2), 4);
        due("again 0", x.again(0), true);
        due("a record", x.count(2), 1);
        due("no values", x.count(1), 0);
        due("not refused", x.why(0, 0), 0);
        due("no acts", x.undo(), NONE);
        due("no fault", x.fault(0), 0);
        due("asked", x.asked(0), 1);
        x.add(7, 7);
        for (int k : new int[] {-1, 1, 3, LEAST, MOST}) {
            due("again " + k, x.again(k), false);
        }
        due("the act stays", x.count(10), 1);
        due("image 1", x.image(1), true);
        due("image 2 anew", x.image(2), true);
        due("undo", x.undo(), 0);
        due("gone", x.record(7, 0), NONE);
        due("again 1", x.again(1), true);
        due("back", x.record(7, 0), 7);
        due("again 0, as it was", x.again(0), true);
        due("gone", x.record(7, 0), NONE);
        due("again 2, the newer one", x.again(2), true);
        due("back", x.record(7, 0), 7);
        due("no values", x.count(1), 0);
        due("images outlive a scheme", scheme(x, "X"), NONE);
        due("again 1", x.again(1), true);
        due("no fault", x.fault(0), 0);
        x = new FacetSieve();
        due("image of a new object", x.image(1), true);
        x.add(1, 1);
        due("asked since", ask(x, "all"), 1);
        due("again", x.again(1), true);
        due("new", x.count(2), 0);
        due("no answer", x.asked(0), NONE);
        due("another has none", new FacetSieve().again(1), false);
    }

    /** All that the image of promise 30 is about. */
    private static void imaged(FacetSieve x) {
        due("acts", x.count(10), 0);
        due("tape", x.count(11), 11);
        dueFaultKept(x);
        due("asked", x.asked(0), 3);
        due("work", x.asked(1), 3);
        due("last one asked", x.asked(12), 3);
        dueWhy("why", x, 4, NONE, 5, 3);
        due("wanted", x.value(0, 9), 1);
        due("shut out", x.value(4, 9), 2);
        due("by all", x.head(1, 2), 1);
        due("by any", x.head(0, 2), 0);
        due("rank", x.record(1, 0), 6);
        due("tags", x.count(9), 7);
        due("name", x.value(4, 11), 'c');
        due("parent", x.value(2, 1), 1);
        dueLeft("of the image", x, 1);
    }

    private static void dueFaultKept(FacetSieve x) {
        due("fault", x.fault(0), 3);
        due("place", x.fault(1), 6);
    }

    private static void calls() {
        in("What it is");
        says("An object is used for at most 512 calls after it has been made; what later calls answer is free.");
        FacetSieve x = new FacetSieve();
        for (int call = 1; call <= 509; call++) {
            due("call " + call, call % 2 == 1 ? x.add(7, call) : x.drop(7), 0);
        }
        due("call 510", x.count(10), 10);
        due("call 511", x.record(7, 0), 509);
        due("call 512", x.undo(), 9);
        x = new FacetSieve();
        for (int call = 1; call <= 512; call += 2) {
            due("call " + call, x.image(call % 3), true);
            due("call " + (call + 1), x.again(call % 3), true);
        }
        in("Constants");
        says("`NONE = -1`: There is none.");
        due("NONE", FacetSieve.NONE, -1);
    }

    public static void main(String[] args) throws Exception {
        readDocument();
        recordsAndBlocks();
        headsAtMost();
        valuesAtMost();
        names();
        tagsAndSets();
        boxes();
        tapeAndTokens();
        schemeLines();
        schemeFaults();
        questions();
        choices();
        leftOnes();
        counts();
        shownAndTold();
        workAndAlike();
        namedOnes();
        acts();
        refusals();
        acted();
        promises1To3();
        promises4To5();
        promises6To7();
        promises8To12();
        promises13To14();
        promise15();
        promise16();
        promise17();
        promises18To19();
        promise20();
        promises21To22();
        promises23To24();
        promises25To26();
        promises27To29();
        promises30To31();
        calls();
        tellWhatIsNotQuoted();
        System.out.println(sentences + " sentences, " + asked + " answers looked at, " + wrong + " wrong");
        if (wrong != 0 || asked == 0) {
            System.exit(1);
        }
    }
}
