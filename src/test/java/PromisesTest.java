/** Each promise of the document by hand: ordinary inputs, some edges, wrong inputs; SentencesTest has every sentence. */
public final class PromisesTest extends Answers {
    /** Works that take n minutes each: weight 1, so far, with pace 1, each with a thing of its own. */
    static final String PAIR = "mover 0 1;thing 0 1;thing 5 1;own 0 0 to 4 by 4 for 10;own 0 1 to 8 by 5 for 20;";

    static void p1NewObject() {
        OneMoves x = new OneMoves();
        for (int what = 0; what < 8; what++) due("many(" + what + ")", x.many(what), 0);
        due("minute()", x.minute(), 0);
        due("again()", x.again(), NONE);
        due("set(0, 0)", x.set(0, 0), 0);
        due("set(1, 1)", x.set(1, 1), 1);
        due("set(2, 5)", x.set(2, 5), 5);
        due("set(3, 3)", x.set(3, 3), 3);
        due("item(0, 0, 0)", x.item(0, 0, 0), -11);
        due("taken(3, 0)", x.taken(3, 0), -11);
        due("had()", x.had(), 0);
        due("may()", x.may(), 0);
    }

    static void p2Feed() {
        OneMoves x = new OneMoves();
        due("feed(0, 0)", x.feed(0, 0), BAD);
        due("feed(0, 9)", x.feed(0, 9), BAD);
        due("feed(0, LOW)", x.feed(0, LOW), BAD);
        due("feed(0, 3)", x.feed(0, 3), 3);
        for (int i = 0; i < 29; i++) x.feed(-1L, 8);
        due("many(6)", x.many(6), 235);
        due("feed(1, 8)", x.feed(1, 8), FULL);
        due("feed(1, 6)", x.feed(1, 6), FULL);
        due("feed(1, 5)", x.feed(1, 5), 240);
        due("feed(1, 1)", x.feed(1, 1), FULL);
        due("feed(1, 9)", x.feed(1, 9), BAD);
        // the lowest byte first, what stands above n counts nothing
        OneMoves y = new OneMoves();
        y.feed(0x4141_206c_6c65_62L, 5);
        y.feed(0x3b34L, 2);
        due("town()", y.town(), 0);
        due("set(3, 1)", y.set(3, 1), 4);
    }

    static void p3Town() {
        OneMoves x = new OneMoves();
        due("empty", x.town(), 0);
        due("blanks", told(x, "   "), 0);
        due("two works", told(x, PAIR), 2);
        due("many(0)", x.many(0), 1);
        due("many(1)", x.many(1), 2);
        due("tape", x.many(6), 0);
        x.rule(1, 3);
        x.prove();
        x.pass(7);
        x.does(0);
        due("a fault", told(x, "mover 0 1;thing 0 0;"), -100 - 18);
        due("still there", x.many(2), 2);
        due("rows still there", x.many(5), 2);
        due("minute", x.minute(), 11);
        due("tape used up", x.many(6), 0);
        due("again told", told(x, " mover  9 5 ;thing 1 2 ; quick 0 0 to 3 by 999 for 99;"), 1);
        due("minute", x.minute(), 0);
        due("no rows", x.many(5), 0);
        due("rules stay", x.many(4), 1);
        due("movers", x.many(0), 1);
        due("at", x.at(0, 0), 9);
        due("kind", x.workOf(0, 0), 4);
        due("due", x.workOf(0, 4), 999);
        due("worth", x.workOf(0, 5), 99);
        due("open", x.workOf(0, 8), 0);
        due("behind", x.workOf(0, 6), -9);
        due("had", x.had(), 0);
    }

    static void p3Laws() {
        OneMoves x = new OneMoves();
        x.set(1, 4);
        x.set(3, 17);
        due("laws", told(x, "water 3;water 7;bell 20;bell 1;"), 0);
        due("the last counts", x.set(0, 0), 7);
        due("others stay", x.set(1, 0), 4);
        due("long stays", x.set(2, 1), 5);
        due("bell", x.set(3, 20), 1);
        due("call", told(x, "call 8 30;"), 0);
        due("call", x.set(1, 0), 8);
        due("long", x.set(2, 1), 30);
        due("a fault behind a law", told(x, "water 5;bell 0;"), -113);
        due("the law stays", x.set(0, 0), 0);
        due("call alone", told(x, "call 8;"), -106);
        due("long 0", told(x, "call 8 0;"), -107);
        due("long 31", told(x, "call 8 31;"), -107);
        due("water 009", told(x, "water 009;"), 0);
        due("water", x.set(0, 0), 9);
    }

    static void p3Faults() {
        OneMoves x = new OneMoves();
        String two = "mover 1 1;thing 1 1;";
        String work = "work 0 0 to 1 by 1 for 1";
        due("behind 0 of the first", told(x, two + work + " behind 0;"), -100 - 52);
        due("behind itself", told(x, two + work + ";" + work + " behind 1;"), -100 - 77);
        due("behind", told(x, two + work + ";" + work + " behind 0;"), 2);
        due("behind is kept", x.workOf(1, 6), 0);
        due("within is 0", x.workOf(1, 7), 0);
        due("within 0", told(x, two + work + ";" + work + " behind 0 within 0;"), -100 - 86);
        due("within 99", told(x, two + work + ";" + work + " behind 0 within 99;"), 2);
        due("within is kept", x.workOf(1, 7), 99);
        due("within 100", told(x, two + work + ";" + work + " behind 0 within 100;"), -100 - 86);
        due("within alone", told(x, two + work + " within 1;"), -100 - 45);
        due("no such thing", told(x, two + "work 0 1 to"), -100 - 27);
        due("the end", told(x, two + work + " "), -100 - 45);
        due("capital", told(x, "Mover 1 1;"), -100);
        due("a tab", told(x, "mover\t1 1;"), -105);
        due("byte 255", told(x, "mover 1 1;" + (char) 255), -110);
        due("byte 0", told(x, "mover 1 1;" + (char) 0), -110);
        due("a number first", told(x, "7 mover"), -100);
        due("a name for a number", told(x, "mover one 1;"), -106);
        due("a minus", told(x, "mover -1 1;"), -106);
        due("two ends", told(x, "mover 1 1;;"), -110);
        due("names run on", told(x, "moverthing 1 1;"), -100);
        due("four digits", told(x, "mover 0001 1;"), -106);
        due("three digits", told(x, "mover 001 005;"), 0);
        due("a seventh thing", told(x, "thing 1 1;".repeat(7)), -160);
        due("six things", told(x, "thing 1 1;".repeat(6)), 0);
        due("six works", told(x, two + "own 0 0 to 1 by 1 for 1;".repeat(6)), 6);
        due("a seventh work", told(x, two + "own 0 0 to 1 by 1 for 1;".repeat(6) + "slow"), -100 - 164);
        due("works stay", x.many(2), 6);
        due("to 10", told(x, two + "heavy 0 0 to 10 by 1 for 1;"), -100 - 33);
        due("weight 10", told(x, "thing 0 10;"), -108);
        due("pace 0", told(x, "mover 0 0;"), -108);
        due("a fourth mover", told(x, "mover 1 1;".repeat(4)), -130);
        due("three movers", told(x, "mover 1 1;".repeat(3)), 0);
        due("mover 1 of one", told(x, two + "work 1 0 to 1 by 1 for 1;"), -100 - 25);
        due("mover 3 of one, thing 3 of six", told(x, "mover 1 1;" + "thing 1 1;".repeat(6) + "work 3 0 to 1 by 1 for 1;"), -100 - 75);
        due("a name with z", told(x, "moverz 1 1;"), -100);
        due("a name with a", told(x, "movera 1 1;"), -100);
        due("another first letter", told(x, "hover 1 1;"), -100);
        due("a name behind a number", told(x, "mover 1a 1;"), -107);
        due("a byte below the digits", told(x, "mover 1/ 1;"), -107);
        due("a byte above the digits", told(x, "mover 1: 1;"), -107);
        due("as long as they go", told(x, "mover1 1;"), 0);
        due("a fault at 0 behind nothing", told(x, "x mover 1 1;"), -100);
        due("pace 6", told(x, "mover 0 6;"), -108);
    }

    static void p4Mover() {
        OneMoves x = new OneMoves();
        due("mover(-1, 1)", x.mover(-1, 1), BAD);
        due("mover(10, 1)", x.mover(10, 1), BAD);
        due("mover(0, 0)", x.mover(0, 0), BAD);
        due("mover(0, 6)", x.mover(0, 6), BAD);
        due("mover(0, 1)", x.mover(0, 1), 0);
        due("mover(9, 5)", x.mover(9, 5), 1);
        due("mover(4, 3)", x.mover(4, 3), 2);
        due("a fourth", x.mover(4, 3), FULL);
        due("a bad fourth", x.mover(4, 6), BAD);
        due("many(0)", x.many(0), 3);
        due("at(0, 1)", x.at(0, 1), 9);
    }

    static void p5Thing() {
        OneMoves x = new OneMoves();
        due("thing(-1, 1)", x.thing(-1, 1), BAD);
        due("thing(10, 1)", x.thing(10, 1), BAD);
        due("thing(0, 0)", x.thing(0, 0), BAD);
        due("thing(0, 10)", x.thing(0, 10), BAD);
        for (int i = 0; i < 6; i++) due("thing", x.thing(i, 9 - i), i);
        due("a seventh", x.thing(0, 1), FULL);
        due("a bad seventh", x.thing(0, 10), BAD);
        due("many(1)", x.many(1), 6);
        due("at(1, 5)", x.at(1, 5), 5);
    }

    static void p6Work() {
        OneMoves x = new OneMoves();
        due("no mover", x.work(0, 0, 0, 0, 0, 0), BAD);
        x.mover(1, 2);
        due("no thing", x.work(0, 0, 0, 0, 0, 0), BAD);
        x.thing(3, 4);
        due("kind -1", x.work(-1, 0, 0, 0, 0, 0), BAD);
        due("kind 6", x.work(6, 0, 0, 0, 0, 0), BAD);
        due("mover 1", x.work(0, 1, 0, 0, 0, 0), BAD);
        due("mover -1", x.work(0, -1, 0, 0, 0, 0), BAD);
        due("thing 1", x.work(0, 0, 1, 0, 0, 0), BAD);
        due("thing -1", x.work(0, 0, -1, 0, 0, 0), BAD);
        due("to -1", x.work(0, 0, 0, -1, 0, 0), BAD);
        due("to 10", x.work(0, 0, 0, 10, 0, 0), BAD);
        due("due -1", x.work(0, 0, 0, 0, -1, 0), BAD);
        due("due 1000", x.work(0, 0, 0, 0, 1000, 0), BAD);
        due("worth -1", x.work(0, 0, 0, 0, 0, -1), BAD);
        due("worth 100", x.work(0, 0, 0, 0, 0, 100), BAD);
        for (int i = 0; i < 6; i++) due("work", x.work(i, 0, 0, 9, 999, 99), i);
        due("a seventh", x.work(0, 0, 0, 0, 0, 0), FULL);
        due("a bad seventh", x.work(6, 0, 0, 0, 0, 0), BAD);
        due("behind none", x.workOf(5, 6), -9);
        due("many(2)", x.many(2), 6);
        OneMoves y = of(PAIR);
        y.keep();
        y.work(0, 0, 0, 0, 0, 0);
        y.behind(2, 1, 5);
        y.does(1);
        y.does(2);
        y.again();
        due("anew", y.work(0, 0, 0, 0, 0, 0), 2);
        due("behind none", y.workOf(2, 6), -9);
        due("within 0", y.workOf(2, 7), 0);
        due("open", y.workOf(2, 8), 0);
        due("may()", y.may(), 7);
        told(y, PAIR + "own 0 0 to 1 by 1 for 1 behind 0 within 3;");
        told(y, PAIR);
        y.work(0, 0, 0, 0, 0, 0);
        due("behind none", y.workOf(2, 6), -9);
        due("within 0", y.workOf(2, 7), 0);
    }

    static void p7Behind() {
        OneMoves x = of("mover 0 1;thing 0 1;" + "own 0 0 to 0 by 9 for 9;".repeat(3));
        due("behind(3, 0, 0)", x.behind(3, 0, 0), BAD);
        due("behind(-1, -1, 0)", x.behind(-1, -1, 0), BAD);
        due("behind(1, 1, 0)", x.behind(1, 1, 0), BAD);
        due("behind(1, 2, 0)", x.behind(1, 2, 0), BAD);
        due("behind(1, -2, 0)", x.behind(1, -2, 0), BAD);
        due("behind(1, 0, -1)", x.behind(1, 0, -1), BAD);
        due("behind(1, 0, 100)", x.behind(1, 0, 100), BAD);
        due("behind(0, -1, 0)", x.behind(0, -1, 0), -9);
        due("behind(2, 0, 99)", x.behind(2, 0, 99), -9);
        due("behind(2, 1, 4)", x.behind(2, 1, 4), 0);
        due("workOf(2, 6)", x.workOf(2, 6), 1);
        due("workOf(2, 7)", x.workOf(2, 7), 4);
        due("behind(2, -1, 0)", x.behind(2, -1, 0), 1);
        due("workOf(2, 6)", x.workOf(2, 6), -9);
        due("does(1)", x.does(1), 9);
        due("a done one", x.behind(1, 0, 0), STATE);
        due("a done one, bad", x.behind(1, 1, 0), BAD);
        due("behind a done one", x.behind(2, 1, 0), -9);
        due("may()", x.may(), 5);
    }

    static void p8WorkOf() {
        OneMoves x = of("mover 0 1;mover 0 1;thing 0 1;thing 4 1;thing 7 1;"
            + "work 0 0 to 1 by 2 for 3;slow 1 2 to 6 by 50 for 60 behind 0 within 7;");
        int[] want = {3, 1, 2, 6, 50, 60, 0, 7, 0, -9};
        for (int what = 0; what < 10; what++) due("workOf(1, " + what + ")", x.workOf(1, what), want[what]);
        due("workOf(1, 10)", x.workOf(1, 10), BAD);
        due("workOf(1, -1)", x.workOf(1, -1), BAD);
        due("workOf(2, 0)", x.workOf(2, 0), BAD);
        due("workOf(-1, 0)", x.workOf(-1, 0), BAD);
        x.does(0);
        due("done", x.workOf(0, 8), 1);
        due("ended", x.workOf(0, 9), 1);
        x.pass(8);
        due("spoilt", x.does(1), 0);
        due("spoilt", x.workOf(1, 8), 2);
        due("not ended", x.workOf(1, 9), -9);
    }

    static void p9At() {
        OneMoves x = of("mover 3 1;mover 4 1;thing 5 1;thing 6 2;thing 7 3;");
        due("at(0, 0)", x.at(0, 0), 3);
        due("at(0, 1)", x.at(0, 1), 4);
        due("at(0, 2)", x.at(0, 2), BAD);
        due("at(1, 2)", x.at(1, 2), 7);
        due("at(1, 3)", x.at(1, 3), BAD);
        due("at(2, 0)", x.at(2, 0), BAD);
        due("at(-1, 0)", x.at(-1, 0), BAD);
        due("at(0, -1)", x.at(0, -1), BAD);
    }

    static void p10Put() {
        OneMoves x = of("mover 3 1;thing 5 1;thing 6 2;");
        due("put(0, 0, 9)", x.put(0, 0, 9), 3);
        due("put(0, 0, 0)", x.put(0, 0, 0), 9);
        due("put(1, 1, 2)", x.put(1, 1, 2), 6);
        due("at(1, 1)", x.at(1, 1), 2);
        due("at(1, 0)", x.at(1, 0), 5);
        due("put(0, 1, 0)", x.put(0, 1, 0), BAD);
        due("put(1, 2, 0)", x.put(1, 2, 0), BAD);
        due("put(2, 0, 0)", x.put(2, 0, 0), BAD);
        due("put(1, 0, 10)", x.put(1, 0, 10), BAD);
        due("put(1, 0, -1)", x.put(1, 0, -1), BAD);
        due("at(1, 0)", x.at(1, 0), 5);
    }

    static void p11Set() {
        OneMoves x = new OneMoves();
        int[][] range = {{0, 9}, {0, 8}, {1, 30}, {1, 20}};
        int[] first = {0, 1, 5, 3};
        for (int law = 0; law < 4; law++) {
            due("below", x.set(law, range[law][0] - 1), BAD);
            due("above", x.set(law, range[law][1] + 1), BAD);
            due("least", x.set(law, range[law][0]), first[law]);
            due("most", x.set(law, range[law][1]), range[law][0]);
            due("most is kept", x.set(law, range[law][1]), range[law][1]);
        }
        due("set(4, 1)", x.set(4, 1), BAD);
        due("set(-1, 1)", x.set(-1, 1), BAD);
        due("set(HIGH, 1)", x.set(HIGH, 1), BAD);
    }

    static void p12Minute() {
        OneMoves x = of(PAIR);
        due("minute()", x.minute(), 0);
        x.does(0);
        due("minute()", x.minute(), 4);
        x.worth(1);
        x.best(0);
        x.bell(1);
        due("minute() as it was", x.minute(), 4);
    }

    static void p13Pass() {
        OneMoves x = of("water 9;");
        due("pass(0)", x.pass(0), 0);
        due("water's count, too", x.pass(5), 5);
        due("pass(999)", x.pass(999), 1004);
        due("pass(1000)", x.pass(1000), BAD);
        due("pass(-1)", x.pass(-1), BAD);
        due("minute()", x.minute(), 1004);
    }

    static void p14Minutes() {
        // far 3, weight 5, pace 2: 7 and a rest, 8; walk 2
        OneMoves x = of("mover 1 2;mover 9 1;thing 3 5;thing 3 1;thing 4 1;"
            + "work 0 0 to 6 by 9 for 9;heavy 0 0 to 6 by 9 for 9;cart 0 0 to 6 by 9 for 9;"
            + "slow 0 0 to 6 by 9 for 9;quick 0 0 to 6 by 9 for 9;own 0 0 to 6 by 9 for 9;");
        due("work", x.minutes(0), 10);
        due("heavy", x.minutes(1), 16);
        due("cart", x.minutes(2), 11);
        due("slow", x.minutes(3), 32);
        due("quick", x.minutes(4), 6);
        due("own", x.minutes(5), 15);
        due("minutes(6)", x.minutes(6), BAD);
        due("minutes(-1)", x.minutes(-1), BAD);
        x.put(0, 0, 3);
        x.put(1, 1, 8);
        due("work", x.minutes(0), 8);
        due("cart", x.minutes(2), 8);
        due("quick", x.minutes(4), 4);
        OneMoves y = of("mover 1 1;thing 3 1;heavy 0 0 to 3 by 9 for 9;slow 0 0 to 3 by 9 for 9;");
        due("his own walk again", y.minutes(0), 4);
        due("and twice", y.minutes(1), 8);
        OneMoves z = of("mover 1 1;mover 5 1;thing 3 1;heavy 1 0 to 3 by 9 for 9;");
        z.put(0, 0, 9);
        due("the first behind the last", z.minutes(0), 8);
        z.does(0);
        due("a done one, as all stands now", z.minutes(0), 0);
    }

    static void p15May() {
        OneMoves x = of("mover 0 1;thing 0 1;own 0 0 to 0 by 9 for 9;own 0 0 to 0 by 9 for 9 behind 0;"
            + "own 0 0 to 0 by 9 for 9 behind 1;own 0 0 to 0 by 9 for 9;");
        due("may()", x.may(), 9);
        x.does(0);
        due("may()", x.may(), 10);
        x.does(3);
        due("may()", x.may(), 2);
        x.does(1);
        due("may()", x.may(), 4);
        x.does(2);
        due("may()", x.may(), 0);
    }

    static void p16Does() {
        OneMoves x = of("mover 1 2;mover 9 1;thing 3 5;thing 3 1;thing 4 1;water 2;"
            + "heavy 0 0 to 6 by 20 for 9;cart 1 1 to 4 by 0 for 99 behind 0;own 0 0 to 0 by 9 for 9;");
        due("does(3)", x.does(3), BAD);
        due("does(-1)", x.does(-1), BAD);
        due("behind an open one", x.does(1), STATE);
        due("16 minutes, 8 in each ten", x.does(0), 9);
        due("minute()", x.minute(), 20);
        due("not open", x.does(0), STATE);
        due("mover", x.at(0, 0), 6);
        due("who comes along", x.at(0, 1), 6);
        due("thing", x.at(1, 0), 6);
        due("stays", x.at(1, 1), 3);
        // walk 3, carry 1; begins at 20, water's are 20 and 21
        due("cart", x.does(1), 73);
        due("minute()", x.minute(), 26);
        due("at(1, 2)", x.at(1, 2), 4);
        due("at(0, 1)", x.at(0, 1), 4);
        due("own: 30 minutes, ends late, 0 at least", x.does(2), 0);
        due("minute()", x.minute(), 64);
        due("the mover stays", x.at(0, 0), 6);
        due("the thing doesn't", x.at(1, 0), 0);
        due("done", x.workOf(2, 8), 1);
    }

    static void p16Spoilt() {
        OneMoves x = of("mover 0 1;thing 0 1;own 0 0 to 0 by 9 for 9;own 0 0 to 5 by 99 for 9 behind 0 within 3;"
            + "own 0 0 to 5 by 99 for 9 behind 1;own 0 0 to 5 by 99 for 9 behind 0 within 4;own 0 0 to 5 by 99 for 8 behind 0;");
        x.does(0);
        x.pass(4);
        due("more than 3 ahead", x.does(1), 0);
        due("no minutes", x.minute(), 4);
        due("nothing moved", x.at(1, 0), 0);
        due("behind a spoilt one", x.does(2), 0);
        due("spoilt", x.workOf(2, 8), 2);
        due("not more than 4", x.does(3), 9);
        due("at any time", x.does(4), 8);
        due("a spoilt one", x.does(1), STATE);
        OneMoves y = of("mover 0 1;thing 0 1;quick 0 0 to 9 by 99 for 9;");
        y.thing(0, 9);
        y.thing(1, 9);
        y.does(0);
        due("they come along", y.at(1, 1), 9);
        due("that one doesn't", y.at(1, 2), 1);
    }

    static void p17Had() {
        OneMoves x = of(PAIR);
        due("had()", x.had(), 0);
        due("does(1)", x.does(1), 20);
        due("had()", x.had(), 20);
        due("does(0), at 7, due 4", x.does(0), 7);
        due("had()", x.had(), 27);
        told(x, PAIR);
        due("another town", x.had(), 0);
        hadStaysWhatItWas();
    }

    static void tellDues(OneMoves x, int... dues) {
        x.sheet(0, 2, dues.length);
        for (int k = 0; k < dues.length; k++) x.write(0, k, dues[k]);
        due("dues(0)", x.dues(0), dues.length);
    }

    /** A DUE that is told when a work is done already changes nothing of what it was worth. */
    static void hadStaysWhatItWas() {
        OneMoves x = of("mover 0 1;thing 0 1;thing 5 1;thing 0 1;own 0 0 to 4 by 4 for 10;"
            + "own 0 1 to 8 by 5 for 20;own 0 2 to 1 by 99 for 30 behind 0 within 1;");
        due("does(0), at 4, due 4", x.does(0), 10);
        tellDues(x, 0, 5, 99);
        due("a DUE ahead of its end", x.had(), 10);
        due("the DUE is told all the same", x.workOf(0, 4), 0);
        due("does(1), at 7, due 5", x.does(1), 18);
        x.keep();
        tellDues(x, 999, 999, 999);
        due("a DUE behind its end", x.had(), 28);
        due("does(2), spoilt", x.does(2), 0);
        due("a spoilt one", x.had(), 28);
        x.again();
        due("what was kept", x.had(), 28);
        tellDues(x, 0, 0);
        due("and told anew", x.had(), 28);
        OneMoves y = of(PAIR);
        tellDues(y, 1, 3);
        due("a DUE told ahead counts", y.does(0), 7);
        due("had()", y.had(), 7);
        y.worth(digits(1));
        y.best(0);
        y.prove();
        due("orders that are tried add nothing", y.had(), 7);
        due("town() that is refused", told(y, "x"), -100);
        due("changes nothing", y.had(), 7);
        told(y, "");
        due("no works", y.had(), 0);
    }

    static void p18Worth() {
        OneMoves x = of(PAIR);
        due("0 1: 4, 7", x.worth(digits(0, 1)), 28);
        due("1 0: 3, 7", x.worth(digits(1, 0)), 27);
        due("twice", x.worth(digits(0, 0)), BAD);
        due("no such", x.worth(digits(0, 2)), BAD);
        due("more digits", x.worth(digits(0, 1, 1)), BAD);
        due("below 0", x.worth(-1), BAD);
        due("LOW", x.worth(LOW), BAD);
        due("LOW and 8", x.worth(LOW + 8), BAD);
        x.behind(1, 0, 0);
        due("isn't allowed", x.worth(digits(1, 0)), STATE);
        due("allowed", x.worth(digits(0, 1)), 28);
        x.does(0);
        due("the open one", x.worth(1), 18);
        due("not the other", x.worth(0), BAD);
        due("not both", x.worth(digits(0, 1)), BAD);
        x.does(1);
        due("none", x.worth(0), 0);
        OneMoves y = of("mover 0 1;thing 0 1;own 0 0 to 0 by 9 for 9;own 0 0 to 5 by 99 for 9;own 0 0 to 0 by 99 for 7 behind 0 within 4;");
        due("spoilt 0", y.worth(digits(0, 1, 2)), 18);
        due("not spoilt", y.worth(digits(0, 2, 1)), 25);
        due("BAD ahead of STATE", y.worth(digits(2, 0, 0)), BAD);
    }

    static void p19Ends() {
        OneMoves x = of("mover 0 1;thing 0 1;own 0 0 to 0 by 9 for 9;own 0 0 to 5 by 99 for 9;own 0 0 to 0 by 99 for 7 behind 0 within 4;");
        due("ends(0 1 2, 0)", x.ends(digits(0, 1, 2), 0), 0);
        due("ends(0 1 2, 1)", x.ends(digits(0, 1, 2), 1), 5);
        due("spoilt", x.ends(digits(0, 1, 2), 2), -9);
        due("not spoilt", x.ends(digits(1, 0, 2), 2), 10);
        due("STATE", x.ends(digits(2, 0, 1), 2), STATE);
        due("no such work", x.ends(digits(0, 1, 2), 3), BAD);
        due("BAD ahead of STATE", x.ends(digits(2, 0, 1), 3), BAD);
        due("no such order", x.ends(digits(0, 1, 1), 2), BAD);
        x.pass(3);
        x.does(0);
        due("a done one", x.ends(digits(1, 2), 0), BAD);
        due("from now on", x.ends(digits(2, 1), 1), 8);
        x.set(0, 9);
        due("water's minutes", x.ends(digits(2, 1), 1), 50);
        OneMoves y = of("mover 0 1;thing 0 1;own 0 0 to 0 by 9 for 9;own 0 0 to 5 by 99 for 9;own 0 0 to 0 by 99 for 7 behind 0 within 4;");
        y.pass(30);
        y.does(0);
        y.pass(4);
        due("within 4 of what ended at 30", y.ends(digits(2, 1), 2), 34);
        due("not within 4 any more", y.ends(digits(1, 2), 2), -9);
    }

    static void p20Best() {
        OneMoves x = of(PAIR);
        due("best(0)", x.best(0), 28);
        due("best(1)", x.best(1), digits(0, 1));
        due("best(2)", x.best(2), BAD);
        due("best(-1)", x.best(-1), BAD);
        x.pass(1);
        due("26 and 26: the first by numbers", x.best(1), digits(0, 1));
        OneMoves y = of("mover 0 1;thing 0 1;thing 0 1;own 0 0 to 9 by 18 for 9;own 0 1 to 1 by 1 for 9;");
        due("best(1)", y.best(1), digits(1, 0));
        due("best(0)", y.best(0), 18);
        OneMoves z = of("mover 0 1;thing 0 1;" + "own 0 0 to 0 by 9 for 9;".repeat(6));
        due("six alike", z.best(1), digits(0, 1, 2, 3, 4, 5));
        z.does(0);
        z.does(3);
        due("what was done isn't counted", z.best(0), 36);
        due("the open ones", z.best(1), digits(1, 2, 4, 5));
        OneMoves v = of("mover 0 1;thing 0 1;thing 0 1;own 0 0 to 9 by 0 for 0;own 0 1 to 1 by 1 for 9 behind 0;");
        due("only what is allowed", v.best(0), 0);
        due("only what is allowed", v.best(1), digits(0, 1));
    }

    static void p21Fewest() {
        OneMoves x = of(PAIR);
        due("one is late", x.fewest(), 1);
        x.put(1, 1, 8);
        due("none", x.fewest(), 0);
        x.pass(6);
        due("both", x.fewest(), 2);
        OneMoves y = of("mover 0 1;thing 0 1;thing 0 1;own 0 0 to 0 by 9 for 9;own 0 1 to 9 by 9 for 9;own 0 0 to 0 by 99 for 1 behind 1;");
        y.does(0);
        y.pass(5);
        y.behind(1, 0, 4);
        due("spoilt ones count", y.fewest(), 2);
        OneMoves z = of("mover 0 1;thing 0 1;thing 0 1;own 0 0 to 9 by 9 for 0;own 0 1 to 9 by 9 for 99;");
        due("not of BEST alone", z.fewest(), 1);
        OneMoves v = of("mover 0 1;thing 0 1;thing 0 1;own 0 0 to 5 by 5 for 0;own 0 1 to 1 by 1 for 9;own 0 1 to 1 by 1 for 9;");
        due("the least: 0 alone is late, or 1 and 2", v.fewest(), 1);
        v.pass(1);
        v.does(0);
        due("those ahead don't count", v.fewest(), 2);
    }

    static void p22Shortest() {
        OneMoves x = of("mover 0 1;thing 9 1;thing 1 1;work 0 0 to 9 by 9 for 9;work 0 1 to 1 by 99 for 9;");
        due("1 and then 8", x.shortest(), 9);
        x.pass(4);
        due("from now on", x.shortest(), 13);
        x.behind(1, 0, 0);
        due("9 and then 8", x.shortest(), 21);
        x.does(0);
        x.does(1);
        due("none: now", x.shortest(), 21);
    }

    static void p23Mean() {
        OneMoves x = of(PAIR);
        x.set(1, 2);
        x.set(2, 4);
        // 0 1: no call 28; ahead of 1: 10 + 14; ahead of 0: 6 + 14; of both 6 + 10; 36, 12, 12, 4 of 64
        due("above", x.mean(digits(0, 1), 0), 25);
        due("below", x.mean(digits(0, 1), 1), 1);
        x.set(1, 1);
        // 49, 7, 7, 1 of 64: 1372 + 168 + 140 + 16 = 1696: 53 by 2
        due("above", x.mean(digits(0, 1), 0), 53);
        due("below", x.mean(digits(0, 1), 1), 2);
        due("part 2", x.mean(digits(0, 1), 2), BAD);
        due("part -1", x.mean(digits(0, 1), -1), BAD);
        due("no order", x.mean(0, 0), BAD);
        x.behind(1, 0, 0);
        due("isn't allowed", x.mean(digits(1, 0), 0), STATE);
        due("BAD ahead of STATE", x.mean(digits(1, 0), 2), BAD);
        x.set(1, 8);
        due("always", x.mean(digits(0, 1), 0), 16);
        x.set(1, 0);
        due("never", x.mean(digits(0, 1), 0), 28);
        x.set(1, 8);
        x.set(0, 8);
        // 4 not water's: 20; 4: 40; 4: 60; 3: 79
        due("water's aren't counted", x.mean(digits(0, 1), 0), 0);
        told(x, "mover 0 1;thing 0 1;own 0 0 to 0 by 15 for 9;call 8 4;water 8;");
        due("till 20", x.mean(0, 0), 4);
    }

    static void p24Sure() {
        OneMoves x = of("mover 0 1;thing 0 1;thing 0 1;own 0 0 to 4 by 8 for 9;own 0 1 to 3 by 11 for 9;call 3 4;");
        // fit: none called, or one of them: 25 + 15 + 15 of 64
        due("above", x.sure(digits(0, 1), 0), 55);
        due("below", x.sure(digits(0, 1), 1), 64);
        due("1 0: none called alone", x.sure(digits(1, 0), 0), 25);
        due("part 2", x.sure(digits(0, 1), 2), BAD);
        due("no order", x.sure(0, 1), BAD);
        x.behind(1, 0, 3);
        due("STATE", x.sure(digits(1, 0), 1), STATE);
        // the doctor between them spoils the second
        due("40 of 64", x.sure(digits(0, 1), 0), 5);
        due("40 of 64", x.sure(digits(0, 1), 1), 8);
        x.pass(9);
        due("0 is 0 by 1", x.sure(digits(0, 1), 0), 0);
        due("0 is 0 by 1", x.sure(digits(0, 1), 1), 1);
    }

    static void p25Bell() {
        OneMoves x = of("mover 0 1;thing 0 1;thing 0 1;thing 0 1;bell 2;"
            + "own 0 0 to 3 by 8 for 9;own 0 1 to 5 by 1 for 9;own 0 2 to 1 by 9 for 9 behind 0 within 1;");
        // 0: 0-2, 1: 2-4; 0: 4-5, 1: 5-7, 2: 7-8; 1: 8-9
        due("bell(0)", x.bell(0), 5);
        due("bell(1)", x.bell(1), 9);
        due("within counts nothing", x.bell(2), 8);
        due("bell(3)", x.bell(3), BAD);
        due("bell(-1)", x.bell(-1), BAD);
        x.set(0, 4);
        x.set(3, 20);
        // 4-7; 7-10, 14-16; 16-17
        due("bell(0)", x.bell(0), 7);
        due("bell(1)", x.bell(1), 16);
        due("bell(2)", x.bell(2), 17);
        x.does(0);
        due("a done one", x.bell(0), BAD);
        x.pass(50);
        x.does(2);
        x.set(0, 0);
        due("from now on", x.bell(1), 62);
        OneMoves y = of("mover 0 1;thing 0 1;own 0 0 to 3 by 8 for 9;own 0 0 to 9 by 1 for 9;bell 20;");
        due("minutes as all stands now", y.bell(1), 12);
        OneMoves z = of("mover 0 1;thing 0 1;thing 0 1;own 0 0 to 0 by 8 for 9;own 0 1 to 3 by 8 for 9 behind 0 within 1;own 0 1 to 2 by 8 for 9 behind 1;");
        z.does(0);
        z.pass(9);
        z.does(1);
        due("behind a spoilt one", z.bell(2), 11);
    }

    static void p26Rule() {
        OneMoves x = new OneMoves();
        due("rule(0, 0)", x.rule(0, 0), BAD);
        due("rule(6, 0)", x.rule(6, 0), BAD);
        due("rule(1, -1)", x.rule(1, -1), BAD);
        due("rule(1, 10)", x.rule(1, 10), BAD);
        due("rule(1, 0)", x.rule(1, 0), 0);
        due("rule(5, 9)", x.rule(5, 9), 1);
        due("rule(2, 1)", x.rule(2, 1), 2);
        due("rule(3, 1)", x.rule(3, 1), 3);
        due("rule(4, 1)", x.rule(4, 1), FULL);
        due("rule(6, 1)", x.rule(6, 1), BAD);
        due("many(4)", x.many(4), 4);
    }

    static void p27RuleOf() {
        OneMoves x = new OneMoves();
        due("ruleOf(0, 0)", x.ruleOf(0, 0), BAD);
        x.rule(4, 7);
        x.rule(2, 0);
        due("ruleOf(0, 0)", x.ruleOf(0, 0), 4);
        due("ruleOf(0, 1)", x.ruleOf(0, 1), 7);
        due("ruleOf(1, 0)", x.ruleOf(1, 0), 2);
        due("ruleOf(0, 2)", x.ruleOf(0, 2), BAD);
        due("ruleOf(0, -1)", x.ruleOf(0, -1), BAD);
        due("ruleOf(2, 0)", x.ruleOf(2, 0), BAD);
        due("ruleOf(-1, 0)", x.ruleOf(-1, 0), BAD);
    }

    static final String FIVE = "mover 0 1;thing 0 1;thing 0 3;own 0 0 to 6 by 9 for 12;cart 0 0 to 3 by 9 for 8;"
        + "own 0 0 to 4 by 9 for 8;cart 0 1 to 1 by 9 for 7;own 0 0 to 0 by 9 for 2 behind 3;";

    static void p28Takes() {
        // minutes 6, 4, 4, 4, 0; the last one waits for 3
        OneMoves x = of(FIVE);
        x.rule(1, 9);
        x.rule(2, 0);
        x.rule(3, 0);
        x.rule(4, 2);
        due("turn, from 9 modulo 5 on", x.takes(0), 0);
        due("soon", x.takes(1), 1);
        due("worthy: 2 each but 3 by 4", x.takes(2), 0);
        due("kind: own, from 2 on", x.takes(3), 2);
        due("takes(4)", x.takes(4), BAD);
        due("takes(-1)", x.takes(-1), BAD);
        x.does(3);
        due("turn", x.takes(0), 4);
        due("soon: 5, 3, 3, 1", x.takes(1), 4);
        due("worthy: 12 by 5, 8 by 3 twice, 2", x.takes(2), 1);
        x.does(0);
        x.does(1);
        x.does(2);
        x.does(4);
        due("none is open", x.takes(0), NONE);
        OneMoves y = of(FIVE);
        y.rule(5, 6);
        y.rule(4, 3);
        y.rule(4, 1);
        y.rule(1, 7);
        due("told: 6 modulo 4", y.takes(0), 2);
        due("kind, from 3 on, the first behind the last", y.takes(1), 0);
        due("kind, from 1 on", y.takes(2), 2);
        due("turn: 7 modulo 5", y.takes(3), 2);
        y.does(0);
        due("told: 6 modulo 3", y.takes(0), 1);
        due("turn: how many WORKS, not open ones", y.takes(3), 2);
        OneMoves z = of("mover 0 1;thing 0 1;own 0 0 to 0 by 9 for 2;own 0 0 to 2 by 9 for 5;own 0 0 to 0 by 9 for 1;");
        z.rule(3, 0);
        due("worthy: minutes 0 count as 1", z.takes(0), 1);
        z.rule(5, 9);
        z.does(1);
        z.put(1, 0, 0);
        due("worthy, the least of two", z.takes(0), 0);
        z.does(0);
        due("told, of one alone", z.takes(1), 2);
        OneMoves v = of("mover 0 1;thing 0 1;own 0 0 to 1 by 9 for 3;own 0 0 to 0 by 9 for 4;");
        v.rule(3, 0);
        due("worthy: 3 by 1, 4 by 1", v.takes(0), 1);
        OneMoves u = of("mover 0 1;thing 0 1;own 0 0 to 0 by 9 for 2;own 0 0 to 3 by 9 for 5;");
        u.rule(3, 0);
        due("worthy: 2 by 1, 5 by 3", u.takes(0), 0);
    }

    static void p29OrderOf() {
        OneMoves x = of(FIVE);
        x.rule(1, 3);
        x.rule(2, 0);
        x.rule(4, 0);
        x.rule(5, 1);
        due("turn", x.orderOf(0), digits(3, 4, 0, 1, 2));
        // 1 (4): both at 3, mover at 3. 0: 3, 2: 1, 3: 7; 2 takes it to 4. 0: 2, 3: 1 and 6. 0: to 6; 3; 4
        due("soon, as all stands then", x.orderOf(1), digits(1, 2, 0, 3, 4));
        due("kind", x.orderOf(2), digits(0, 2, 1, 3, 4));
        // told 1 of 0 1 2 3; of 0 2 3; of 0 3; of 0 4 or, 1 modulo 1, of 0
        due("told", x.orderOf(3), digits(1, 2, 3, 4, 0));
        due("orderOf(4)", x.orderOf(4), BAD);
        due("orderOf(-1)", x.orderOf(-1), BAD);
        due("nothing is done", x.many(3), 5);
        due("minute()", x.minute(), 0);
        told(x, "");
        due("none", x.orderOf(0), 0);
    }

    static OneMoves proven() {
        OneMoves x = of("mover 0 1;thing 0 1;own 0 0 to 0 by 9 for 9;own 0 0 to 5 by 99 for 9;own 0 0 to 0 by 99 for 7 behind 0 within 4;");
        x.pass(10);
        x.does(0);
        x.pass(5);
        x.prove();
        return x;
    }

    static void p30Prove() {
        OneMoves x = proven();
        due("prove()", x.prove(), 2);
        due("many(5)", x.many(5), 2);
        x.does(1);
        due("rows stay", x.many(5), 2);
        due("prove()", x.prove(), 1);
        due("row(0, 0)", x.row(0, 0), 2);
        x.does(2);
        due("prove()", x.prove(), 0);
        due("row(0, 0)", x.row(0, 0), -9);
    }

    static void p31Row() {
        OneMoves x = proven();
        int[][] want = {{1, 20, 9}, {2, 20, 0}};
        for (int i = 0; i < 2; i++) {
            for (int what = 0; what < 3; what++) due("row(" + i + ", " + what + ")", x.row(i, what), want[i][what]);
        }
        due("row(2, 0)", x.row(2, 0), -9);
        due("row(-1, 0)", x.row(-1, 0), -9);
        due("row(0, 3)", x.row(0, 3), -9);
        due("row(0, -1)", x.row(0, -1), -9);
    }

    static void p32AlterRow() {
        OneMoves x = proven();
        due("alterRow(1, 1, LOW)", x.alterRow(1, 1, LOW), 20);
        due("alterRow(1, 1, 3)", x.alterRow(1, 1, 3), LOW);
        due("row(1, 1)", x.row(1, 1), 3);
        due("row(0, 1)", x.row(0, 1), 20);
        due("alterRow(2, 0, 1)", x.alterRow(2, 0, 1), -9);
        due("alterRow(0, 3, 1)", x.alterRow(0, 3, 1), -9);
        due("alterRow(-1, 0, 1)", x.alterRow(-1, 0, 1), -9);
        due("alterRow(0, -1, 1)", x.alterRow(0, -1, 1), -9);
    }

    static void p33Judge() {
        OneMoves x = proven();
        due("all is right", x.judge(), 0);
        x.alterRow(1, 2, 1);
        due("a spoilt one is worth 0", x.judge(), 2);
        x.alterRow(1, 2, 0);
        x.alterRow(1, 1, 21);
        due("its minute", x.judge(), 2);
        x.alterRow(1, 1, 20);
        x.alterRow(1, 0, 1);
        due("told ahead", x.judge(), 2);
        x.alterRow(1, 0, 0);
        due("a done one", x.judge(), 2);
        x.alterRow(1, 0, 3);
        due("no such", x.judge(), 2);
        x.alterRow(1, 0, LOW);
        due("no such", x.judge(), 2);
        x.alterRow(0, 0, HIGH);
        due("the first one", x.judge(), 1);
        OneMoves y = proven();
        y.work(0, 0, 0, 0, 0, 0);
        due("open works are left", y.judge(), 222);
        y.pass(1);
        due("from now on", y.judge(), 1);
        OneMoves z = of(PAIR);
        due("no rows", z.judge(), 222);
        z.prove();
        due("all is right", z.judge(), 0);
        z.behind(1, 0, 0);
        due("all is right", z.judge(), 0);
        z.alterRow(0, 0, 1);
        z.alterRow(0, 1, 3);
        z.alterRow(0, 2, 20);
        due("may not come then", z.judge(), 1);
        z.behind(1, -1, 0);
        z.alterRow(1, 0, 0);
        z.alterRow(1, 2, 7);
        due("another order is right, too", z.judge(), 0);
        due("judging does nothing", z.many(3), 2);
    }

    static void p34Dues() {
        OneMoves x = of(PAIR);
        due("dues(-1)", x.dues(-1), BAD);
        due("dues(4)", x.dues(4), BAD);
        due("dues(0)", x.dues(0), -11);
        for (int sort = 0; sort < 4; sort++) {
            x.sheet(0, sort, 1);
            due("dues(0) of sort " + sort, x.dues(0), sort == 2 ? 1 : -13);
        }
        due("workOf(0, 4)", x.workOf(0, 4), 0);
        due("workOf(1, 4)", x.workOf(1, 4), 5);
        x.sheet(0, 2, 3);
        x.write(0, 0, 1000);
        x.write(0, 1, 999);
        due("dues(0)", x.dues(0), 2);
        due("workOf(0, 4)", x.workOf(0, 4), 999);
        due("workOf(1, 4)", x.workOf(1, 4), 999);
        x.write(0, 1, LOW);
        x.dues(0);
        due("workOf(1, 4)", x.workOf(1, 4), 0);
        x.sheet(0, 2, 0);
        due("no items", x.dues(0), 0);
    }

    static void p35Sheet() {
        OneMoves x = new OneMoves();
        due("sheet(-1, 0, 1)", x.sheet(-1, 0, 1), BAD);
        due("sheet(4, 0, 1)", x.sheet(4, 0, 1), BAD);
        due("sheet(0, -2, 1)", x.sheet(0, -2, 1), BAD);
        due("sheet(0, 4, 1)", x.sheet(0, 4, 1), BAD);
        due("sheet(0, 4, -1)", x.sheet(0, 4, -1), BAD);
        due("sheet(0, 0, 41)", x.sheet(0, 0, 41), BAD);
        due("sheet(0, 0, -1)", x.sheet(0, 0, -1), -14);
        due("still missing", x.write(0, 0, 0), -11);
        due("sheet(0, 0, 40)", x.sheet(0, 0, 40), 1);
        due("write(0, 39, 5)", x.write(0, 39, 5), 1);
        due("write(0, 40, 5)", x.write(0, 40, 5), -12);
        due("all 0", x.sheet(0, 1, 40), 1);
        due("item(0, 1, 39)", x.item(0, 1, 39), 0);
        x.write(0, 0, 7);
        x.sheet(0, 1, 40);
        due("item(0, 1, 0)", x.item(0, 1, 0), 0);
        due("n counts nothing", x.sheet(0, -1, 41), 1);
        due("n counts nothing", x.sheet(0, -1, LOW), 1);
        due("missing", x.item(0, 1, 0), -11);
        due("sheet(3, 3, 0)", x.sheet(3, 3, 0), 1);
        due("item(3, 3, 0)", x.item(3, 3, 0), -12);
    }

    static void p36Write() {
        OneMoves x = new OneMoves();
        due("write(4, 0, 0)", x.write(4, 0, 0), BAD);
        due("write(-1, 0, 0)", x.write(-1, 0, 0), BAD);
        due("write(0, 0, 0)", x.write(0, 0, 0), -11);
        due("write(0, -1, 0)", x.write(0, -1, 0), -11);
        int[] want = {(byte) 0x12345687, (short) 0x12345687 + 0, 0x12345687, 0x12345687};
        for (int sort = 0; sort < 4; sort++) {
            x.sheet(sort, sort, 2);
            due("write", x.write(sort, 1, 0x12345687), 1);
            due("item", x.item(sort, sort, 1), want[sort]);
            due("the other", x.item(sort, sort, 0), 0);
            due("outside", x.write(sort, 2, 0), -12);
            due("outside", x.write(sort, -1, 0), -12);
        }
        x.write(1, 0, 0x18000);
        due("a short", x.item(1, 1, 0), -32768);
    }

    static void p37Item() {
        OneMoves x = new OneMoves();
        x.sheet(1, 1, 3);
        due("item(4, 1, 0)", x.item(4, 1, 0), BAD);
        due("item(1, 4, 0)", x.item(1, 4, 0), BAD);
        due("item(1, -1, 0)", x.item(1, -1, 0), BAD);
        due("item(0, 1, 9)", x.item(0, 1, 9), -11);
        due("item(0, 4, 9)", x.item(0, 4, 9), BAD);
        due("item(1, 0, 9)", x.item(1, 0, 9), -13);
        due("item(1, 2, 0)", x.item(1, 2, 0), -13);
        due("item(1, 3, 0)", x.item(1, 3, 0), -13);
        due("item(1, 1, 3)", x.item(1, 1, 3), -12);
        due("item(1, 1, -1)", x.item(1, 1, -1), -12);
        x.write(1, 2, -13);
        due("an item as low", x.item(1, 1, 2), -13);
    }

    static void p38Shelf() {
        OneMoves x = new OneMoves();
        due("shelf(0, 0, 0)", x.shelf(0, 0, 0), BAD);
        x.rule(2, 3);
        due("shelf(0, 0, 0)", x.shelf(0, 0, 0), 1);
        due("shelf(0, 0, 1)", x.shelf(0, 0, 1), BAD);
        due("shelf(4, 0, 0)", x.shelf(4, 0, 0), BAD);
        due("shelf(-1, 0, 0)", x.shelf(-1, 0, 0), BAD);
        due("shelf(0, 3, 0)", x.shelf(0, 3, 0), BAD);
        due("shelf(0, -1, 0)", x.shelf(0, -1, 0), BAD);
        due("shelf(0, 1, 4)", x.shelf(0, 1, 4), BAD);
        due("shelf(0, 1, -1)", x.shelf(0, 1, -1), BAD);
        due("still there", x.taken(0, 2), 0);
        due("a missing sheet", x.shelf(0, 1, 2), 1);
        due("nothing", x.taken(0, 2), -11);
        x.sheet(2, 0, 7);
        due("nothing still", x.taken(0, 10), -11);
        due("a row", x.shelf(0, 1, 2), 1);
        due("taken(0, 10)", x.taken(0, 10), 7);
        x.sheet(2, 3, 9);
        due("that row still", x.taken(0, 10), 7);
        due("nothing, n counts nothing", x.shelf(0, 2, 99), 1);
        due("nothing", x.taken(0, 10), -11);
    }

    static void p39Taken() {
        OneMoves x = new OneMoves();
        x.rule(1, 0);
        x.rule(3, 0);
        x.rule(4, 0);
        x.rule(5, 0);
        boolean[][] under = {
            {true, true, false, false, false, false},
            {true, false, true, true, false, false},
            {true, true, false, false, true, false},
            {true, false, false, false, false, true}};
        for (int s = 0; s < 4; s++) {
            x.shelf(s, 0, s);
            for (int as = 0; as < 6; as++) due("taken(" + s + ", " + as + ")", x.taken(s, as), under[s][as] ? s : -13);
            for (int as = 10; as < 14; as++) due("taken(" + s + ", " + as + ")", x.taken(s, as), -13);
            due("taken(" + s + ", 6)", x.taken(s, 6), BAD);
            due("taken(" + s + ", 9)", x.taken(s, 9), BAD);
            due("taken(" + s + ", 14)", x.taken(s, 14), BAD);
            due("taken(" + s + ", -1)", x.taken(s, -1), BAD);
        }
        for (int sort = 0; sort < 4; sort++) {
            x.sheet(0, sort, 10 + sort);
            x.shelf(0, 1, 0);
            for (int as = 10; as < 14; as++) due("taken(0, " + as + ")", x.taken(0, as), as == 10 + sort ? as : -13);
            due("taken(0, 0)", x.taken(0, 0), -13);
        }
        x.shelf(0, 2, 0);
        due("taken(0, 0)", x.taken(0, 0), -11);
        due("taken(0, 6)", x.taken(0, 6), BAD);
        due("taken(4, 0)", x.taken(4, 0), BAD);
        due("taken(-1, 0)", x.taken(-1, 0), BAD);
    }

    static void traceIs(OneMoves x, int... bodies) {
        due("many(7)", x.many(7), bodies.length);
        for (int i = 0; i < bodies.length; i++) due("trace(" + i + ")", x.trace(i), bodies[i]);
        due("behind the trace", x.trace(bodies.length), NONE);
    }

    static void p40Act() {
        OneMoves x = new OneMoves();
        x.rule(5, 3);
        x.rule(2, 4);
        x.rule(3, 5);
        x.rule(4, 8);
        for (int s = 0; s < 4; s++) x.shelf(s, 0, s);
        // told: n 0, a 3
        due("moves", x.act(0, 0, 7), 7);
        due("calls", x.act(0, 1, 7), 14);
        due("shares: -7 by 3, and 3", x.act(0, 2, -7), 1);
        traceIs(x, 61, 12, 10);
        due("tells: 14 ^ 3, twice", x.act(0, 3, 7), 26);
        traceIs(x, 60, 13, 11, 10);
        // soon: n 1, a 4
        due("moves: 8 * 3", x.act(1, 0, 7), 24);
        due("calls", x.act(1, 1, 7), 48);
        due("shares: 7 by 3", x.act(1, 2, 7), 2);
        due("tells: (48 ^ 4) and 1 by 3", x.act(1, 3, 7), 52);
        traceIs(x, 31, 13, 11, 30, 10, 12);
        // worthy: n 2, a 5
        due("moves: 0 - 27", x.act(2, 0, 7), -27);
        due("calls: -54 - 12", x.act(2, 1, 7), -66);
        traceIs(x, 41, 11, 40, 30, 10, 40, 30, 10);
        due("tells: (-66 ^ 5) and 2 by 3", x.act(2, 3, 7), -66 ^ 5);
        traceIs(x, 31, 13, 41, 11, 40, 30, 10, 40, 30, 10, 12);
        // kind: n 3, a 8
        due("moves: 10 - 3", x.act(3, 0, 7), 7);
        traceIs(x, 51, 10);
        due("calls: 14 - 8", x.act(3, 1, 7), 6);
        traceIs(x, 20, 11, 51, 10);
        due("shares: (9 by 5) ^ 1", x.act(3, 2, 7), 0);
        traceIs(x, 50, 12);
        due("tells: 6 ^ 8", x.act(3, 3, 7), 14);
        OneMoves y = new OneMoves();
        y.rule(1, 0);
        y.rule(1, 0);
        y.rule(2, 3);
        y.shelf(0, 0, 2);
        due("tells: (42 ^ 3) and 2 by 1", y.act(0, 3, 5), 43);
        due("ints wrap", x.act(1, 0, HIGH), (HIGH + 1) * 3);
        due("ints wrap", x.act(3, 2, HIGH), (HIGH + 2) / 5 ^ 1);
    }

    static void p40ActRefuses() {
        OneMoves x = new OneMoves();
        x.rule(5, 0);
        x.rule(1, 0);
        x.rule(2, 2);
        for (int s = 0; s < 3; s++) x.shelf(s, 0, s);
        due("the same: that is all", x.act(0, 2, 7), -15);
        traceIs(x, 61, 12);
        due("tells without shares", x.act(0, 3, 7), 28);
        due("by -1", x.act(1, 2, LOW), LOW);
        due("the same, at last", x.act(2, 3, 7), -15);
        traceIs(x, 31, 13, 11, 30, 10, 12);
        due("no such shelf", x.act(4, 0, 7), 0);
        traceIs(x);
        x.act(0, 0, 7);
        due("no such shelf", x.act(-1, 0, 7), 0);
        traceIs(x);
        x.act(0, 0, 7);
        due("no such act", x.act(0, 4, 7), 0);
        traceIs(x);
        x.act(0, 0, 7);
        due("no such act", x.act(0, -1, 7), 0);
        traceIs(x);
        x.act(0, 0, 7);
        due("nothing", x.act(3, 0, 7), 0);
        traceIs(x);
        x.sheet(0, 2, 4);
        x.shelf(3, 1, 0);
        x.act(0, 0, 7);
        due("a row", x.act(3, 0, 7), 0);
        traceIs(x);
    }

    static void p41Trace() {
        OneMoves x = new OneMoves();
        due("trace(0)", x.trace(0), NONE);
        x.rule(1, 0);
        x.shelf(0, 0, 0);
        x.act(0, 1, 1);
        traceIs(x, 20, 11, 10);
        due("trace(-1)", x.trace(-1), NONE);
        due("trace(HIGH)", x.trace(HIGH), NONE);
        due("trace(29)", x.trace(29), NONE);
        x.act(0, 0, 1);
        traceIs(x, 10);
    }

    static void p42Many() {
        OneMoves x = of("mover 0 1;mover 0 1;" + "thing 0 1;".repeat(5) + "own 0 0 to 0 by 9 for 9;".repeat(4));
        x.prove();
        x.does(2);
        x.rule(1, 1);
        x.rule(1, 1);
        x.rule(1, 1);
        x.shelf(0, 0, 0);
        x.act(0, 1, 1);
        x.feed(0, 6);
        int[] want = {2, 5, 4, 3, 3, 4, 6, 3};
        for (int what = 0; what < 8; what++) due("many(" + what + ")", x.many(what), want[what]);
        due("many(8)", x.many(8), BAD);
        due("many(-1)", x.many(-1), BAD);
        due("many(LOW)", x.many(LOW), BAD);
    }

    static void p43And44KeepAgain() {
        OneMoves x = of(PAIR);
        due("again()", x.again(), NONE);
        x.rule(1, 2);
        x.set(0, 3);
        x.pass(2);
        x.does(0);
        due("keep()", x.keep(), 1);
        int minute = x.minute();
        x.feed(0, 3);
        x.sheet(0, 2, 2);
        x.rule(5, 6);
        x.rule(3, 5);
        x.shelf(0, 0, 2);
        x.shelf(1, 0, 0);
        x.shelf(2, 1, 0);
        x.act(0, 0, 1);
        x.prove();
        x.set(0, 5);
        x.does(1);
        x.put(0, 0, 9);
        x.put(1, 0, 9);
        x.mover(0, 1);
        x.thing(0, 1);
        x.work(0, 0, 0, 0, 0, 0);
        x.dues(0);
        due("again()", x.again(), 2);
        int[] want = {1, 2, 2, 1, 1, 1, 3, 3};
        for (int what = 0; what < 8; what++) due("many(" + what + ")", x.many(what), want[what]);
        due("minute()", x.minute(), minute);
        due("had()", x.had(), 7);
        due("the mover", x.at(0, 0), 0);
        due("the thing", x.at(1, 0), 4);
        due("dues", x.workOf(1, 4), 5);
        due("the ended one", x.workOf(0, 9), 7);
        due("the law", x.set(0, 8), 3);
        due("no such rule any more", x.taken(0, 0), -11);
        due("no act of it", x.act(0, 0, 1), 0);
        due("the other one", x.taken(1, 1), 0);
        due("the row", x.taken(2, 12), 2);
        x.rule(2, 0);
        x.rule(4, 0);
        due("by its number", x.taken(0, 4), 2);
        told(x, "");
        due("it stays kept", x.again(), 2);
        due("rules, too", x.many(4), 1);
        due("the law", x.set(0, 0), 3);
        x.does(1);
        x.keep();
        told(x, "mover 1 1;");
        due("the latest", x.again(), 2);
        due("the latest", x.many(3), 0);
        OneMoves y = new OneMoves();
        y.rule(1, 2);
        y.keep();
        OneMoves z = new OneMoves();
        z.rule(3, 4);
        z.keep();
        told(z, PAIR);
        z.does(0);
        z.behind(1, 0, 1);
        z.keep();
        z.pass(2);
        z.does(1);
        z.again();
        due("rules by kind", z.ruleOf(0, 0), 3);
        due("rules by A", z.ruleOf(0, 1), 4);
        due("ends are kept", z.workOf(0, 9), 4);
        due("not spoilt", z.does(1), 18);
        y.again();
        y.rule(2, 2);
        y.again();
        y.rule(5, 7);
        due("anew", y.ruleOf(1, 0), 5);
        due("movers", x.many(0), 1);
    }

    static void named(int number, Runnable part) {
        promise = number;
        part.run();
    }

    public static void main(String[] args) {
        named(1, PromisesTest::p1NewObject);
        named(2, PromisesTest::p2Feed);
        named(3, PromisesTest::p3Town);
        named(3, PromisesTest::p3Laws);
        named(3, PromisesTest::p3Faults);
        named(4, PromisesTest::p4Mover);
        named(5, PromisesTest::p5Thing);
        named(6, PromisesTest::p6Work);
        named(7, PromisesTest::p7Behind);
        named(8, PromisesTest::p8WorkOf);
        named(9, PromisesTest::p9At);
        named(10, PromisesTest::p10Put);
        named(11, PromisesTest::p11Set);
        named(12, PromisesTest::p12Minute);
        named(13, PromisesTest::p13Pass);
        named(14, PromisesTest::p14Minutes);
        named(15, PromisesTest::p15May);
        named(16, PromisesTest::p16Does);
        named(16, PromisesTest::p16Spoilt);
        named(17, PromisesTest::p17Had);
        named(18, PromisesTest::p18Worth);
        named(19, PromisesTest::p19Ends);
        named(20, PromisesTest::p20Best);
        named(21, PromisesTest::p21Fewest);
        named(22, PromisesTest::p22Shortest);
        named(23, PromisesTest::p23Mean);
        named(24, PromisesTest::p24Sure);
        named(25, PromisesTest::p25Bell);
        named(26, PromisesTest::p26Rule);
        named(27, PromisesTest::p27RuleOf);
        named(28, PromisesTest::p28Takes);
        named(29, PromisesTest::p29OrderOf);
        named(30, PromisesTest::p30Prove);
        named(31, PromisesTest::p31Row);
        named(32, PromisesTest::p32AlterRow);
        named(33, PromisesTest::p33Judge);
        named(34, PromisesTest::p34Dues);
        named(35, PromisesTest::p35Sheet);
        named(36, PromisesTest::p36Write);
        named(37, PromisesTest::p37Item);
        named(38, PromisesTest::p38Shelf);
        named(39, PromisesTest::p39Taken);
        named(40, PromisesTest::p40Act);
        named(40, PromisesTest::p40ActRefuses);
        named(41, PromisesTest::p41Trace);
        named(42, PromisesTest::p42Many);
        named(43, PromisesTest::p43And44KeepAgain);
        System.out.println(wrong == 0 ? "all promises are kept" : wrong + " answers are not as promised");
        if (wrong != 0) System.exit(1);
    }
}
