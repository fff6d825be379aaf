/** Each promise of the document in turn: ordinary inputs, the edges it names, and wrong inputs. */
public final class PromisesTest {
    private static final int NONE = FacetSieve.NONE;
    private static final String SHOP =
        "head hue single;value red;value dark in red;value blue;"
        + "head use many;value car;value bike;"
        + "record 0 5 dark car;record 1 9 red bike car;record 2 9 blue;record 33 1 dark;";
    private static int asked = 0;
    private static int wrong = 0;

    private static void due(String what, int got, int want) {
        asked++;
        if (got != want) {
            wrong++;
            System.out.println(what + " answered " + got + ", due is " + want);
        }
    }

    private static void due(String what, boolean got, boolean want) {
        due(what, got ? 1 : 0, want ? 1 : 0);
    }

    /** Puts a text behind the tape, in feeds of twenty bytes, the last one cut. */
    private static void tell(FacetSieve x, String text) {
        int before = x.count(11);
        for (int at = 0; at < text.length(); at += 20) {
            int[] numbers = new int[5];
            for (int i = 0; i < 20; i++) {
                int sign = at + i < text.length() ? text.charAt(at + i) : ' ';
                numbers[i / 4] = numbers[i / 4] << 8 | sign;
            }
            x.feed(numbers[0], numbers[1], numbers[2], numbers[3], numbers[4]);
        }
        x.end(before + text.length());
    }

    private static FacetSieve sieve(String text) {
        FacetSieve x = new FacetSieve();
        tell(x, text);
        if (x.scheme() == NONE) {
            due("scheme " + text + " fault", x.fault(0), 0);
        }
        return x;
    }

    private static void schemeFault(String text, int fault, int place) {
        FacetSieve x = sieve(SHOP);
        tell(x, text);
        due("scheme of " + text, x.scheme(), NONE);
        due("fault of " + text, x.fault(0), fault);
        due("place of " + text, x.fault(1), place);
        due("tape after " + text, x.count(11), 0);
        due("records after " + text, x.count(2), 4);
        due("values after " + text, x.count(1), 5);
    }

    private static void questionFault(String text, int fault, int place) {
        FacetSieve x = sieve(SHOP);
        tell(x, "dark");
        x.ask();
        tell(x, text);
        due("ask of " + text, x.ask(), NONE);
        due("fault of " + text, x.fault(0), fault);
        due("place of " + text, x.fault(1), place);
        due("tape after " + text, x.count(11), 0);
        due("asked before " + text, x.asked(0), 2);
    }

    private static void question(String text, int work, int cost, int... records) {
        FacetSieve x = sieve(SHOP);
        tell(x, text);
        due("ask of " + text, x.ask(), records.length);
        due("asked 0 of " + text, x.asked(0), records.length);
        due("asked 1 of " + text, x.asked(1), work);
        due("asked 2 of " + text, x.asked(2), cost);
        for (int k = 0; k < records.length; k++) {
            due("asked " + (10 + k) + " of " + text, x.asked(10 + k), records[k]);
        }
        due("asked behind the last of " + text, x.asked(10 + records.length), NONE);
    }

    private static void newObject() {
        FacetSieve x = new FacetSieve();
        for (int what = 0; what < 14; what++) {
            due("new count " + what, x.count(what), 0);
        }
        due("new count 14", x.count(14), NONE);
        due("new count 15", x.count(15), NONE);
        due("new count -1", x.count(-1), NONE);
        due("new asked", x.asked(0), NONE);
        due("new asked 10", x.asked(10), NONE);
        due("new fault 0", x.fault(0), 0);
        due("new fault 1", x.fault(1), NONE);
        due("new why", x.why(0, 0), 0);
        due("new undo", x.undo(), NONE);
        for (int k = -1; k < 4; k++) {
            due("new again " + k, x.again(k), false);
        }
        due("new head", x.head(0, 0), NONE);
        due("new value", x.value(0, 0), NONE);
        due("new record", x.record(0, 0), NONE);
        due("new left", x.left(0, false), NONE);
        due("new spread", x.spread(0), 0);
    }

    private static void feedAndEnd() {
        FacetSieve x = new FacetSieve();
        for (int i = 1; i <= 30; i++) {
            due("feed " + i, x.feed(0, 0, 0, 0, 0), 20 * i);
        }
        due("feed beyond 600", x.feed(1, 2, 3, 4, 5), NONE);
        due("bytes", x.count(11), 600);
        due("end 601", x.end(601), NONE);
        due("end -1", x.end(-1), NONE);
        due("end 600", x.end(600), 600);
        due("end 581", x.end(581), 581);
        due("feed to 601", x.feed(0, 0, 0, 0, 0), NONE);
        due("end 580", x.end(580), 580);
        due("feed to 600", x.feed(0, 0, 0, 0, 0), 600);
        due("end 0", x.end(0), 0);
        due("end 1", x.end(1), NONE);
        due("bytes then", x.count(11), 0);
        // "head hue many;" and a cut in a word's midst: the highest byte comes first.
        x.feed(0x68656164, 0x20687565, 0x206d616e, 0x793b7878, 0x78787878);
        due("end 14", x.end(14), 14);
        due("scheme", x.scheme(), 0);
        due("heads", x.count(0), 1);
        due("letter", x.head(0, 11), 'u');
    }

    private static void scheme() {
        FacetSieve x = sieve(SHOP);
        due("heads", x.count(0), 2);
        due("values", x.count(1), 5);
        due("fault", x.fault(0), 0);
        due("place", x.fault(1), NONE);
        due("other fault", x.fault(2), NONE);
        due("fault -1", x.fault(-1), NONE);
        x.choose(0, 1);
        x.go(1, true);
        tell(x, SHOP);
        due("scheme again", x.scheme(), 4);
        due("nothing chosen", x.value(0, 9), 0);
        due("by any", x.head(1, 2), 0);
        due("no acts", x.count(10), 0);
        due("undo none", x.undo(), NONE);
        tell(x, "\n head\nhue\nmany ;value red;record 007 010red ; ");
        due("blanks", x.scheme(), 1);
        due("leading naughts", x.record(7, 0), 10);
        due("tag behind a number", x.record(7, 10), 0);
        tell(x, "head abcdefgh many;value zz;");
        due("longest name", x.scheme(), 0);
        due("last letter", x.head(0, 17), 'h');
        due("no ninth letter", x.head(0, 18), NONE);
        due("z", x.value(0, 11), 'z');
        StringBuilder many = new StringBuilder("head hh many;");
        for (int i = 0; i < 20; i++) {
            many.append("value v").append((char) ('a' + i)).append(';');
        }
        tell(x, many.toString());
        due("twenty values", x.scheme(), 0);
        due("twenty", x.count(1), 20);
        schemeFault(many + "value vz;", 4, many.length());
        tell(x, "");
        due("empty", x.scheme(), 0);
        due("no values", x.count(1), 0);
    }

    private static void schemeFaults() {
        schemeFault("head", 1, 4);
        schemeFault("head  ", 1, 6);
        schemeFault("head hue", 1, 8);
        schemeFault("head hue many", 1, 13);
        schemeFault("head hue many value red;", 1, 14);
        schemeFault("hue", 1, 0);
        schemeFault(";", 1, 0);
        schemeFault("head hue many;;", 1, 14);
        schemeFault("head 12 many;", 1, 5);
        schemeFault("Head hue many;", 1, 0);
        schemeFault("head hUe many;", 1, 5);
        schemeFault("head huE many;", 1, 7);
        schemeFault("head abcdefghi many;", 1, 5);
        schemeFault("head a many;", 1, 5);
        schemeFault("\tx", 1, 0);
        schemeFault("head hue many;value in;", 1, 20);
        schemeFault("head hue many;value all;", 1, 20);
        schemeFault("head hue many;value red in;", 1, 26);
        schemeFault("head hue many;value red dark;", 1, 24);
        schemeFault("record 1;", 1, 8);
        schemeFault("record ab 1;", 1, 7);
        schemeFault("record 1 1 many;", 1, 11);
        schemeFault("record 1 1 1;", 1, 11);
        schemeFault("record 1 1 [", 1, 11);
        schemeFault("record 1234 1;", 1, 7);
        schemeFault("record 1 0000;", 1, 9);
        schemeFault("record 256 X;", 2, 7);
        schemeFault("record 999 1;", 2, 7);
        schemeFault("head hue many;head hue single;", 3, 19);
        schemeFault("head hue many;value red;value red;", 3, 30);
        schemeFault("head hue many;value hue X", 3, 20);
        schemeFault("head hue many;value red;head red many;", 3, 29);
        schemeFault("head hue many;value red in hue;", 3, 27);
        schemeFault("head hue many;value red in red;", 3, 27);
        schemeFault("head hue many;record 1 1 hue;", 3, 25);
        schemeFault("head hue many;record 1 1 red;value red;", 3, 25);
        schemeFault("value many;", 4, 0);
        schemeFault("record 1 1;value red;", 4, 11);
        schemeFault("record 5 1;record 005 2;", 5, 18);
        schemeFault("head hue many;value red;record 1 1 red red;", 6, 39);
        schemeFault("head hue single;value red;record 1 1 red red;", 6, 41);
        schemeFault("head hue single;value red;value dark in red;record 1 1 dark red;", 6, 60);
    }

    private static void questions() {
        question("red", 0, 3, 0, 1, 33);
        question("all", 0, 3, 0, 1, 2, 33);
        question("red and car", 4, 2, 0, 1);
        question("red less car", 5, 1, 33);
        question("car less red", 4, 0);
        question("blue or dark", 3, 3, 0, 2, 33);
        question("red and car or blue less all", 9, 2, 0, 1);
        question("red and [car or blue] less bike", 10, 1, 0);
        question("[[[[[[dark]]]]]]", 0, 2, 0, 33);
        question("all less blue less bike", 8, 2, 0, 33);
        question("all less[blue\nor bike]", 7, 2, 0, 33);
        question("blue or bike and car", 5, 2, 1, 2);
        // At every depth a part and a fact wait, while all that is deeper is read.
        String deepest = "bike";
        for (int depth = 0; depth <= 6; depth++) {
            deepest = "blue or car and " + (depth == 0 ? deepest : "[" + deepest + "]");
        }
        question(deepest, 5 + 6 * 6, 2, 1, 2);
        StringBuilder thirty = new StringBuilder("all");
        for (int i = 1; i < 30; i++) {
            thirty.append(" or all");
        }
        question(thirty.toString(), 29 * 6, 3, 0, 1, 2, 33);
        questionFault(thirty + " or all", 7, thirty.length() + 4);
        questionFault(thirty + " or red", 7, thirty.length() + 4);
        questionFault(thirty + " or pink", 3, thirty.length() + 4);
        questionFault(thirty + " or [all]", 7, thirty.length() + 5);
    }

    private static void questionFaults() {
        questionFault("", 1, 0);
        questionFault("  ", 1, 2);
        questionFault("hue", 3, 0);
        questionFault("red and", 1, 7);
        questionFault("red and or", 1, 8);
        questionFault("and red", 1, 0);
        questionFault("red]", 1, 3);
        questionFault("[red]]", 1, 5);
        questionFault("[]", 1, 1);
        questionFault("[red", 1, 4);
        questionFault("red;", 1, 3);
        questionFault("red [car]", 1, 4);
        questionFault("[red] car", 1, 6);
        questionFault("12", 1, 0);
        questionFault("red or pink X", 3, 7);
        questionFault("red in car", 1, 4);
        questionFault("[[[[[[[red]]]]]]]", 8, 6);
        questionFault("red[", 1, 3);
        FacetSieve x = sieve(SHOP);
        tell(x, "dark");
        x.ask();
        due("asked 3", x.asked(3), NONE);
        due("asked 9", x.asked(9), NONE);
        due("asked -1", x.asked(-1), NONE);
        due("asked far", x.asked(Integer.MAX_VALUE), NONE);
        due("asked least", x.asked(Integer.MIN_VALUE), NONE);
        x.drop(0);
        due("as it was then", x.asked(0), 2);
        due("as it was then, first", x.asked(10), 0);
        x.scheme();
        due("asked outlives a scheme", x.asked(0), 2);
    }

    private static void recordActs() {
        FacetSieve x = sieve(SHOP);
        due("add", x.add(255, 999), 0);
        due("rank of added", x.record(255, 0), 999);
        due("no tags", x.record(255, 1), 0);
        due("add again", x.add(255, 0), 2);
        due("add 256", x.add(256, 0), 1);
        due("add -1", x.add(-1, 0), 1);
        due("add rank 1000", x.add(9, 1000), 1);
        due("add rank -1 of one there", x.add(0, -1), 1);
        due("drop", x.drop(0), 0);
        due("drop again", x.drop(0), 3);
        due("drop 256", x.drop(256), 1);
        due("its tags are gone", x.value(1, 4), 1);
        due("added anew", x.add(0, 1), 0);
        due("without tags", x.record(0, 1), 0);
        due("rank", x.rank(0, 2), 0);
        due("rank is so", x.rank(0, 2), 2);
        due("rank not there", x.rank(7, 2), 3);
        due("rank 1000", x.rank(7, 1000), 1);
        due("rank of 256", x.rank(256, 2), 1);
        due("tag", x.tag(0, 1), 0);
        due("in the set above", x.has(0, 0), true);
        due("tag again", x.tag(0, 1), 2);
        due("tag single", x.tag(0, 0), 4);
        due("why of single", x.why(1, 1), 1);
        due("tag not there", x.tag(7, 0), 3);
        due("tag no value", x.tag(7, 5), 1);
        due("tag value -1", x.tag(0, -1), 1);
        due("tag many", x.tag(0, 3), 0);
        due("tag many too", x.tag(0, 4), 0);
        due("three tags", x.record(0, 1), 3);
        due("untag", x.untag(0, 1), 0);
        due("out of the set above", x.has(0, 0), false);
        due("untag again", x.untag(0, 1), 3);
        due("untag what is only above", x.untag(33, 0), 3);
        due("untag not there", x.untag(7, 0), 3);
        due("untag no value", x.untag(0, 5), 1);
        due("untag no record", x.untag(256, 0), 1);
        due("now single is free", x.tag(0, 2), 0);
    }

    private static void choosing() {
        FacetSieve x = sieve(SHOP);
        due("choose 0", x.choose(0, 0), 2);
        due("choose how 3", x.choose(0, 3), 1);
        due("choose how -1", x.choose(0, -1), 1);
        due("choose no value", x.choose(5, 0), 1);
        due("choose value -1", x.choose(-1, 1), 1);
        due("go any", x.go(0, false), 2);
        due("go no head", x.go(2, true), 1);
        due("go head -1", x.go(-1, true), 1);
        due("none acted", x.count(10), 0);
        due("want dark", x.choose(1, 1), 0);
        due("want blue", x.choose(2, 1), 0);
        due("some of them", x.count(3), 3);
        due("wanted ones", x.head(0, 3), 2);
        due("by all", x.go(0, true), 0);
        due("each of them", x.count(3), 0);
        due("go all again", x.go(0, true), 2);
        due("want red instead of blue", x.choose(2, 0), 0);
        due("red", x.choose(0, 1), 0);
        due("red and dark", x.count(3), 2);
        due("shut out car", x.choose(3, 2), 0);
        due("left", x.left(0, false), 33);
        due("chosen 2", x.value(3, 9), 2);
        due("count of what is shut out", x.value(3, 7), 0);
        due("ahead of what is shut out", x.value(3, 8), 1);
        due("count by all", x.value(1, 7), 1);
        due("ahead of blue by all", x.value(2, 8), 0);
        due("by any", x.go(0, false), 0);
        due("count of red by any", x.value(0, 7), 1);
        due("count of blue by any", x.value(2, 7), 1);
        due("ahead of blue by any", x.value(2, 8), 2);
        due("ahead of one wanted", x.value(0, 8), 1);
        due("want red, shut dark out", x.choose(1, 2), 0);
        due("nothing is left", x.count(3), 0);
    }

    private static void why() {
        FacetSieve x = sieve(SHOP);
        for (int what = 0; what < 2; what++) {
            due("not refused 0 " + what, x.why(0, what), 0);
            due("not refused 1 " + what, x.why(1, what), 0);
        }
        x.tag(0, 2);
        due("reason", x.why(0, 0), 4);
        due("value of 4", x.why(0, 1), NONE);
        due("cause", x.why(1, 0), 5);
        due("holder", x.why(1, 1), 1);
        due("level 2", x.why(2, 0), NONE);
        due("level -1", x.why(-1, 0), NONE);
        due("what 2", x.why(0, 2), NONE);
        due("what -1", x.why(1, -1), NONE);
        x.undo();
        due("undo is no act", x.why(0, 0), 4);
        x.add(0, 0);
        due("reason 2", x.why(0, 0), 2);
        due("value of 2", x.why(0, 1), NONE);
        due("no cause", x.why(1, 0), 0);
        due("no cause's value", x.why(1, 1), 0);
        tell(x, SHOP);
        x.scheme();
        due("a scheme is no act", x.why(0, 0), 2);
        x.drop(0);
        due("then not", x.why(0, 0), 0);
    }

    private static void undo() {
        FacetSieve x = sieve(SHOP);
        x.drop(1);
        due("dropped", x.record(1, 0), NONE);
        due("undo drop", x.undo(), 0);
        due("its rank", x.record(1, 0), 9);
        due("its tags", x.record(1, 1), 3);
        due("sets too", x.value(4, 3), 1);
        due("undo none", x.undo(), NONE);
        x.add(9, 9);
        x.tag(9, 1);
        x.rank(9, 8);
        x.untag(33, 1);
        x.choose(3, 1);
        x.choose(3, 2);
        x.go(1, true);
        x.go(1, true);
        due("seven", x.count(10), 7);
        due("undo go", x.undo(), 6);
        due("by any", x.head(1, 2), 0);
        due("undo choose", x.undo(), 5);
        due("wanted", x.value(3, 9), 1);
        due("undo choose", x.undo(), 4);
        due("not", x.value(3, 9), 0);
        due("undo untag", x.undo(), 3);
        due("tagged", x.has(33, 0), true);
        due("undo rank", x.undo(), 2);
        due("rank", x.record(9, 0), 9);
        due("undo tag", x.undo(), 1);
        due("no tag", x.record(9, 1), 0);
        due("undo add", x.undo(), 0);
        due("not there", x.record(9, 0), NONE);
        for (int i = 100; i < 112; i++) {
            x.add(i, 0);
        }
        due("ten at most", x.count(10), 10);
        for (int i = 9; i >= 0; i--) {
            due("undo to " + i, x.undo(), i);
        }
        due("no more", x.undo(), NONE);
        due("two stay", x.count(2), 6);
        due("the second", x.record(101, 0), 0);
        due("the third", x.record(102, 0), NONE);
    }

    private static void boxes() {
        FacetSieve x = sieve("head hh many;value list;value runs;value bits;value ab;"
            + "record 0 0 list runs bits;record 1 0 runs;record 2 0 runs bits;record 4 0 ab bits;record 5 0 ab;"
            + "record 6 0 bits list;record 8 0 bits ab;record 9 0 ab;record 10 0 bits;record 31 0 ab;record 32 0 ab;");
        due("two single ones, list", x.box(0, 0, 0), 0);
        due("list size", x.box(0, 0, 2), 2);
        due("list rows", x.box(0, 0, 3), 2);
        due("one row of three, runs", x.box(1, 0, 0), 1);
        due("runs records", x.box(1, 0, 1), 3);
        due("runs size", x.box(1, 0, 2), 2);
        due("six rows, bits", x.box(2, 0, 0), 2);
        due("bits records", x.box(2, 0, 1), 6);
        due("bits size", x.box(2, 0, 2), 4);
        due("bits rows", x.box(2, 0, 3), 6);
        due("five in three rows", x.box(3, 0, 0), 2);
        due("rows end with the block", x.box(3, 0, 3), 3);
        due("next block", x.box(3, 1, 3), 1);
        due("no box", x.box(0, 1, 0), NONE);
        due("no block 8", x.box(0, 8, 0), NONE);
        due("no block -1", x.box(0, -1, 0), NONE);
        due("no value", x.box(4, 0, 0), NONE);
        due("what 4", x.box(0, 0, 4), NONE);
        due("what -1", x.box(0, 0, -1), NONE);
        due("all sizes", x.count(4), 2 + 2 + 4 + 4 + 1);
        due("all boxes", x.count(5), 5);
        due("lists", x.count(6), 2);
        due("runs", x.count(7), 1);
        due("bits", x.count(8), 2);
        due("tags", x.count(9), 17);
        x.untag(31, 3);
        due("four in two rows: a list as small as bits", x.box(3, 0, 0), 0);
        x.tag(10, 3);
        due("five in two rows: runs as small as bits", x.box(3, 0, 0), 1);
        due("boxes of a value", x.value(3, 6), 2);
        due("size of a value", x.value(3, 5), 5);
        for (int i = 64; i < 96; i++) {
            x.add(i, 0);
            x.tag(i, 0);
        }
        due("a full block is one row", x.box(0, 2, 2), 2);
        due("its records", x.box(0, 2, 1), 32);
        due("its rows", x.box(0, 2, 3), 1);
    }

    private static void headsAndValues() {
        FacetSieve x = sieve("head hue single;value red;value dark in red;value deep in dark;head use many;value car;"
            + "record 1 1 deep;record 2 2 dark car;record 3 3 red;");
        due("single", x.head(0, 0), 0);
        due("many", x.head(1, 0), 1);
        due("values of it", x.head(0, 1), 3);
        due("values of the other", x.head(1, 1), 1);
        due("letter", x.head(0, 12), 'e');
        due("no letter", x.head(0, 13), NONE);
        due("what 4", x.head(0, 4), NONE);
        due("what 9", x.head(0, 9), NONE);
        due("what -1", x.head(0, -1), NONE);
        due("far what", x.head(0, Integer.MAX_VALUE), NONE);
        due("head -1", x.head(-1, 0), NONE);
        due("head 2", x.head(2, 0), NONE);
        due("head of", x.value(3, 0), 1);
        due("parent", x.value(2, 1), 1);
        due("no parent", x.value(3, 1), NONE);
        due("above", x.value(2, 2), 2);
        due("none above", x.value(0, 2), 0);
        due("set", x.value(0, 3), 3);
        due("set below", x.value(1, 3), 2);
        due("just it", x.value(1, 4), 1);
        due("last letter", x.value(2, 13), 'p');
        due("no letter behind", x.value(2, 14), NONE);
        due("far what of value", x.value(2, Integer.MAX_VALUE), NONE);
        due("what -1 of value", x.value(2, -1), NONE);
        due("value 4", x.value(4, 0), NONE);
        due("value -1", x.value(-1, 3), NONE);
        due("has above all", x.has(1, 0), true);
        due("has not below", x.has(3, 1), false);
        due("has of no record", x.has(-1, 0), false);
        due("has of record 256", x.has(256, 0), false);
        due("has of none there", x.has(9, 0), false);
        due("has of no value", x.has(1, 4), false);
        due("has of value -1", x.has(1, -1), false);
        due("tags", x.record(2, 1), 2);
        due("first tag", x.record(2, 10), 1);
        due("second tag", x.record(2, 11), 3);
        due("third tag", x.record(2, 12), NONE);
        due("what 3", x.record(2, 3), NONE);
        due("what -1 of record", x.record(2, -1), NONE);
        due("far what of record", x.record(2, Integer.MAX_VALUE), NONE);
        due("record -1", x.record(-1, 0), NONE);
        due("record 256", x.record(256, 0), NONE);
        due("left", x.record(2, 2), 1);
        x.choose(3, 2);
        due("not left", x.record(2, 2), 0);
    }

    private static void leftAndTold() {
        FacetSieve x = sieve("head hh many;value aa;value bb;value cc;value dd;"
            + "record 200 5 aa bb;record 3 7 aa bb cc;record 40 5 aa cc;record 7 0 aa;record 8 999;");
        int[] rising = {3, 7, 8, 40, 200};
        int[] shown = {8, 3, 40, 200, 7};
        for (int k = 0; k < 5; k++) {
            due("left " + k, x.left(k, false), rising[k]);
            due("shown " + k, x.left(k, true), shown[k]);
        }
        due("left 5", x.left(5, false), NONE);
        due("shown 5", x.left(5, true), NONE);
        due("left -1", x.left(-1, false), NONE);
        due("shown -1", x.left(-1, true), NONE);
        due("left least", x.left(Integer.MIN_VALUE, true), NONE);
        due("left most", x.left(Integer.MAX_VALUE, true), NONE);
        due("no sure ones", x.count(12), 0);
        due("idle ones", x.count(13), 1);
        due("idle", x.told(0, true), 3);
        due("idle 1", x.told(1, true), NONE);
        due("idle -1", x.told(-1, true), NONE);
        due("parting: 2 of 5, the least such", x.count(14), 1);
        x.choose(1, 1);
        due("sure one", x.told(0, false), 0);
        due("sure 1", x.told(1, false), NONE);
        due("sure -1", x.told(-1, false), NONE);
        due("by any, cc adds", x.value(2, 8), 3);
        due("parting of two", x.count(14), 2);
        x.go(0, true);
        x.choose(0, 1);
        x.choose(2, 2);
        due("dd is not chosen", x.count(14), 3);
        x.choose(3, 1);
        due("nothing is left", x.count(3), 0);
        due("nothing parts", x.count(14), NONE);
        due("nothing is sure", x.count(12), 0);
        x.choose(3, 2);
        due("all are chosen", x.count(14), NONE);
        due("none idle", x.count(13), 0);
    }

    private static void pairs() {
        FacetSieve x = sieve(SHOP);
        due("both", x.both(0, 3, 0), 2);
        due("either", x.both(0, 3, 1), 3);
        due("less", x.both(0, 3, 2), 1);
        due("less the other way", x.both(3, 0, 2), 0);
        due("work of and", x.both(0, 3, 3), 4);
        due("work of or", x.both(0, 3, 4), 5);
        due("work of less", x.both(0, 3, 5), 5);
        due("work of less the other way", x.both(3, 0, 5), 4);
        due("of itself", x.both(0, 0, 0), 3);
        due("what 6", x.both(0, 3, 6), NONE);
        due("what -1", x.both(0, 3, -1), NONE);
        due("value 5", x.both(0, 5, 0), NONE);
        due("value -1", x.both(-1, 0, 0), NONE);
        due("alike", x.alike(0), 1);
        due("alike of none alike", x.alike(2), 0);
        due("alike of bike", x.alike(4), 3);
        due("alike 5", x.alike(5), NONE);
        due("alike -1", x.alike(-1), NONE);
        due("alike alone", sieve("head aa many;value bb;").alike(0), NONE);
        FacetSieve empty = sieve("head aa many;value bb;value cc;value dd;record 1 1 dd;");
        due("empty sets are 0 alike", empty.alike(0), 1);
        due("none alike at all", empty.alike(2), 0);
    }

    private static void naming() {
        FacetSieve x = sieve("head hh many;value aa;value bb;value cc;value dd;"
            + "record 1 0 aa bb cc;record 2 0 aa bb dd;record 3 0 aa cc dd;record 4 0 bb cc dd;"
            + "record 5 0 aa bb cc dd;record 6 0;");
        due("by no three", x.named(5, NONE), -2);
        due("by none", x.named(6, NONE), -2);
        due("not there", x.named(7, NONE), -2);
        due("record -1", x.named(-1, NONE), -2);
        due("record 256", x.named(256, NONE), -2);
        x.drop(5);
        due("by three", x.named(3, NONE), 3);
        due("first", x.named(3, 0), 0);
        due("second", x.named(3, 1), 2);
        due("third", x.named(3, 2), 3);
        due("fourth", x.named(3, 3), -2);
        due("k -2", x.named(3, -2), -2);
        x.drop(4);
        due("by two", x.named(3, NONE), 2);
        due("first of two", x.named(3, 0), 2);
        due("second of two", x.named(3, 1), 3);
        x.drop(2);
        due("by one", x.named(3, NONE), 1);
        due("that one", x.named(3, 0), 3);
        x.drop(1);
        x.drop(6);
        due("the only one", x.named(3, NONE), 0);
        due("no first", x.named(3, 0), -2);
    }

    private static void likesAndSpread() {
        FacetSieve x = sieve(SHOP);
        due("likes of all its tags", x.likes(1), 1);
        due("likes of one tag", x.likes(33), 2);
        due("likes none there", x.likes(5), NONE);
        due("likes -1", x.likes(-1), NONE);
        due("likes 256", x.likes(256), NONE);
        x.add(5, 0);
        due("likes without tags", x.likes(5), 5);
        due("spread 0", x.spread(0), 1);
        due("spread 1", x.spread(1), 1);
        due("spread 2", x.spread(2), 1);
        due("spread 3", x.spread(3), 2);
        due("spread 20", x.spread(20), 0);
        due("spread 21", x.spread(21), NONE);
        due("spread -1", x.spread(-1), NONE);
        x.choose(3, 2);
        due("of those left", x.spread(3), 0);
    }

    private static void images() {
        FacetSieve x = sieve(SHOP);
        due("image 3", x.image(3), false);
        due("image -1", x.image(-1), false);
        due("again 0", x.again(0), false);
        tell(x, "dark");
        x.ask();
        tell(x, "pink");
        x.ask();
        x.choose(3, 1);
        x.go(1, true);
        x.tag(0, 2);
        tell(x, "car");
        due("image 0", x.image(0), true);
        due("an image leaves the acts", x.count(10), 2);
        tell(x, "x");
        x.end(0);
        x.scheme();
        tell(x, "all");
        x.ask();
        due("empty now", x.count(2), 0);
        due("image 2", x.image(2), true);
        x.add(9, 9);
        due("no image 1", x.again(1), false);
        due("acts stay", x.count(10), 1);
        due("again", x.again(0), true);
        due("records", x.count(2), 4);
        due("tape", x.count(11), 3);
        due("fault", x.fault(0), 3);
        due("place", x.fault(1), 0);
        due("asked", x.asked(11), 33);
        due("why", x.why(1, 1), 1);
        due("chosen", x.value(3, 9), 1);
        due("by all", x.head(1, 2), 1);
        due("no acts", x.undo(), NONE);
        due("the tape's bytes", x.ask(), 2);
        due("asked of the tape", x.asked(11), 1);
        x.drop(0);
        due("once more", x.again(0), true);
        due("the image did not follow", x.record(0, 0), 5);
        due("the other one", x.again(2), true);
        due("is empty", x.count(1), 0);
        due("asked of it", x.asked(0), 0);
        due("again -1", x.again(-1), false);
        due("again 3", x.again(3), false);
    }

    public static void main(String[] args) {
        newObject();
        feedAndEnd();
        scheme();
        schemeFaults();
        questions();
        questionFaults();
        recordActs();
        choosing();
        why();
        undo();
        boxes();
        headsAndValues();
        leftAndTold();
        pairs();
        naming();
        likesAndSpread();
        images();
        System.out.println(asked + " answers looked at, " + wrong + " wrong");
        if (wrong != 0 || asked == 0) {
            System.exit(1);
        }
    }
}
