/** For each promise: ordinary inputs, the edges that the document names, wrong inputs, with answers worked out by hand. */
public final class PromisesTest extends Checks {
    public static void main(String[] args) {
        newObject();
        feed();
        told();
        faultsOfTokens();
        faultsOfNumbers();
        faultsOfTooMuch();
        faultsOfNamesAndPairs();
        counts();
        townsAndTrunks();
        ways();
        pricesAndFillers();
        tonights();
        sendings();
        slips();
        undone();
        lostTrunks();
        nights();
        tours();
        sparedTrunks();
        unopenedTrunks();
        images();
        report();
    }

    private static void newObject() {
        start("promise 1");
        for (int what = 0; what <= 12; what++) {
            count(what, what == 4 ? 11 : 0);
        }
        fault(NONE);
        due("NONE", -1, () -> TroupeTrunks.NONE);
        town(0, 0, MISSING);
        trunk(0, 0, MISSING);
        way(0, 0, MISSING);
        price(0, 0, 0, MISSING);
        tonight(0, MISSING, MISSING);
        both(0, 0, MISSING, MISSING);
        send(0, 0, MISSING);
        night(0, 0, 0, MISSING);
        clerk(0, 0, NONE, MISSING);
        tour(0);
        rides(MISSING);
        spared(NONE, NONE);
        undo(false);
        restore(false);
    }

    private static void feed() {
        start("promise 2");
        for (int i = 1; i <= 35; i++) {
            int bytes = 20 * i;
            due("feed", bytes, () -> x.feed(-1, 0, 1, 2, 3));
        }
        due("feed beyond 700", NONE, () -> x.feed(-1, 0, 1, 2, 3));
        count(9, 700);
        due("told(0)", 0, () -> x.told(0));
        count(9, 0);
        // "town careful;trunk 0" with the highest byte of each number first
        due("feed", 20, () -> x.feed(0x746f776e, 0x20636172, 0x6566756c, 0x3b747275, 0x6e6b2030));
        due("told(13)", 0, () -> x.told(13));
        count(0, 1);
        start("promise 2, a text of 700 bytes");
        tell("town careful;" + " ".repeat(686) + "\n");
        start("promise 2, a fault at the end of 700 bytes");
        tellFault("town careful;" + "\n".repeat(686) + "x", 1, 699);
    }

    private static void told() {
        start("promise 3");
        feedText("town slow 3;trunk 0;play 1 1;");
        due("told(-1)", BAD, () -> x.told(-1));
        due("told(41)", BAD, () -> x.told(41));
        due("told(MIN)", BAD, () -> x.told(Integer.MIN_VALUE));
        count(9, 40);
        count(10, 0);
        due("told(29)", 0, () -> x.told(29));
        count(9, 0);
        seed(3);
        days(4, 4);
        night(5, 0, 0, 1);
        image();
        forget();
        tour(0);
        rides(0);
        night(5, 0, 0, 1);
        send(0, 0, NONE);
        tellFault("town careful;trunk 1;", 3, 19);
        count(0, 1);
        count(1, 1);
        count(5, 4);
        count(6, 1);
        count(7, 1);
        count(8, 1);
        count(9, 0);
        count(10, 1);
        rides(0);
        due("told(1) of an empty tape", BAD, () -> x.told(1));
        due("fault() stays", 19, () -> x.fault());
        tell("town careful;town careful;trunk 1;");
        fault(NONE);
        count(0, 2);
        count(3, 0);
        count(5, 0);
        count(6, 0);
        count(7, 0);
        count(8, 0);
        count(10, 1);
        count(11, 1);
        rides(MISSING);
        restore(false);
        undo(false);
        trunk(0, 0, 1);
        tell("");
        count(0, 0);
        count(4, 11);
        // what the tape has behind the first n bytes is no part of the text
        feedText("troupe 49");
        due("told(8) of 'troupe 49'", 1, () -> x.told(8));
        due("fault()", 8, () -> x.fault());
        feedText("troupe 4;x");
        due("told(9) of 'troupe 4;x'", 0, () -> x.told(9));
        count(4, 4);
        feedText("town slowly");
        due("told(9) of 'town slowly'", 1, () -> x.told(9));
        due("fault()", 9, () -> x.fault());
    }

    private static void faultsOfTokens() {
        start("promise 3 and 4, fault 1");
        tellFault("x", 1, 0);
        tellFault(" \n 5", 1, 3);
        tellFault(";", 1, 0);
        tellFault("Town careful;", 1, 0);
        tellFault("toWn careful;", 1, 0);
        tellFault("towns careful;", 1, 0);
        tellFault("tow", 1, 0);
        tellFault("town", 1, 4);
        tellFault("town  ", 1, 6);
        tellFault("town sober;", 1, 5);
        tellFault("town 5;", 1, 5);
        tellFault("town careful", 1, 12);
        tellFault("town careful 5;", 1, 13);
        tellFault("town careful 55555;", 1, 13);
        tellFault("towncareful;", 1, 0);
        tellFault("town drunk;", 1, 10);
        tellFault("town drunk lends 1 1;", 1, 11);
        tellFault("town careful lends;", 1, 18);
        tellFault("town careful lends 1;", 1, 20);
        tellFault("town careful lends 1 1 1;", 1, 23);
        tellFault("town careful lends 1 1 lends 1 1;", 1, 23);
        tellFault("town careful;\ttown careful;", 1, 13);
        tellFault("town careful;\r\n", 1, 13);
        tellFault("town careful;\0", 1, 13);
        tellFault("town careful\u00e9;", 1, 12);
        tellFault("town careful;;", 1, 13);
        tellFault("play 5;", 1, 6);
        tellFault("play 5 1 2 x;", 1, 11);
        tellFault("play;", 1, 4);
        tellFault("like 1 2;", 1, 8);
        tellFault("like 1 2 3 4;", 1, 11);
        tellFault("troupe;", 1, 6);
        tellFault("troupe 5 5;", 1, 9);
        tellFault("town careful;trunk;", 1, 18);
        tellFault("town careful;trunk 0 0;", 1, 21);
        tellFault("thing;", 1, 5);
        tellFault("train;", 1, 5);
        tellFault("-1", 1, 0);
        // blanks count for nothing, nor does it matter where none are
        tell("town\ndrunk5lends1 2 ; trunk0;thing 3 0;play1 3;like1 2 3;troupe1;\n");
        town(0, 1, 5);
        town(0, 2, 1);
        town(0, 3, 2);
        count(2, 1);
        count(3, 1);
        count(4, 1);
    }

    private static void faultsOfNumbers() {
        start("promise 3 and 4, fault 2 of numbers");
        tell("town drunk 0;town slow 1000;town lazy 0999 lends 9 99;town careful lends 0 0;");
        town(0, 1, 0);
        town(1, 1, 1000);
        town(2, 1, 999);
        tellFault("town drunk 1001;", 2, 11);
        tellFault("town drunk 00001;", 2, 11);
        tellFault("town drunk 99999999999999999999;", 2, 11);
        tellFault("town careful lends 10 1;", 2, 19);
        tellFault("town careful lends 1 100;", 2, 21);
        String two = "town careful;town careful;";
        tell(two + "train 0 1 1;train 1 0 9;");
        tellFault(two + "train 0 1 0;", 2, 36);
        tellFault(two + "train 0 1 10;", 2, 36);
        tellFault(two + "train 10000 1 1;", 2, 32);
        tell("town careful;trunk 0;thing 0 0;thing 19 0;");
        tellFault("town careful;trunk 0;thing 20 0;", 2, 27);
        tell("play 1 0;play 20 19;");
        tellFault("play 0 1;", 2, 5);
        tellFault("play 21 1;", 2, 5);
        tellFault("play 1 20;", 2, 7);
        tellFault("play 1 1 20;", 2, 9);
        tell("like 0 19 0;like 19 0 99;");
        tellFault("like 20 1 1;", 2, 5);
        tellFault("like 1 20 1;", 2, 7);
        tellFault("like 1 2 100;", 2, 9);
        tell("troupe 1;");
        count(4, 1);
        tell("troupe 40;");
        count(4, 40);
        tellFault("troupe 0;", 2, 7);
        tellFault("troupe 41;", 2, 7);
        tellFault("troupe 00040;", 2, 7);
        // a number too long can't stand where none can
        tellFault("troupe 40 00040;", 1, 10);
    }

    private static void faultsOfTooMuch() {
        start("promise 3 and 4, fault 2 of too much");
        String five = "town careful;".repeat(5);
        tell(five);
        count(0, 5);
        tellFault(five + " town careful;", 2, 66);
        tellFault(five + "town", 2, 65);
        tell("town careful;" + "trunk 0;".repeat(5) + "thing 1 4;".repeat(10));
        count(1, 5);
        count(2, 10);
        tellFault("town careful;" + "trunk 0;".repeat(6), 2, 53);
        tellFault("town careful;trunk 0;" + "thing 1 0;".repeat(10) + "thing x", 2, 121);
        tell("play 1 1;".repeat(4));
        count(3, 4);
        tellFault("play 1 1;".repeat(5), 2, 36);
        tell("play 1 1 2 3 4;");
        tellFault("play 1 1 2 3 4 5;", 2, 15);
        tellFault("play 1 1 2 3 4 77777;", 2, 15);
        tellFault("play 1 1 2 3 4 x;", 1, 15);
    }

    private static void faultsOfNamesAndPairs() {
        start("promise 3 and 4, faults 3 to 5");
        tellFault("trunk 0;town careful;", 3, 6);
        tellFault("town careful;trunk 1;", 3, 19);
        tellFault("town careful;trunk 9999;", 3, 19);
        tellFault("town careful;thing 1 0;", 3, 21);
        tellFault("town careful;trunk 0;thing 1 1;", 3, 29);
        tellFault("town careful;train 1 0 1;", 3, 19);
        tellFault("town careful;train 0 1 1;", 3, 21);
        tellFault("town careful;train 0 0 1;", 4, 21);
        String two = "town careful;town careful;";
        tellFault(two + "train 0 1 1;train 0 1 2;", 4, 46);
        tell(two + "train 0 1 1;train 1 0 2;");
        tellFault("like 3 3 1;", 4, 7);
        tellFault("like 3 4 1;like 3 4 1;", 4, 18);
        tell("like 3 4 1;like 4 3 1;like 3 5 1;");
        tellFault("troupe 5;troupe 5;", 5, 9);
        tellFault("troupe 5; troupe", 5, 10);
        // the first along the text
        tellFault("town careful;train 0 0 0;trunk 7;", 4, 21);
        tellFault("town careful;train 7 0 0;trunk 7;", 3, 19);
    }

    private static void counts() {
        start("promise 5");
        tell("town careful;town careful;train 0 1 2;trunk 0;trunk 0;trunk 0;thing 1 0;thing 2 0;thing 3 0;thing 4 0;"
                + "play 1 1;play 2 2;play 3 3;troupe 17;");
        count(0, 2);
        count(1, 3);
        count(2, 4);
        count(3, 3);
        count(4, 17);
        days(5, 5);
        send(0, 1, 7);
        count(5, 5);
        night(5, 0, 0, 1);
        count(6, 1);
        count(7, 2);
        count(8, 0);
        seed(0);
        count(8, 1);
        count(9, 0);
        feedText("x");
        count(9, 20);
        due("told(20)", 1, () -> x.told(20));
        send(0, 0, NONE);
        send(0, 0, NONE);
        night(4, 0, 0, NONE);
        night(100, 0, 0, NONE);
        night(-1, 0, 0, NONE);
        count(10, 1);
        count(11, 2);
        count(12, 3);
        due("count(-1)", MISSING, () -> x.count(-1));
        due("count(13)", MISSING, () -> x.count(13));
    }

    private static void townsAndTrunks() {
        start("promises 6 and 7");
        tell("town careful lends 2 7;town drunk 5;town slow 6;town lazy 7 lends 9 99;train 0 1 3;"
                + "trunk 0;trunk 1;trunk 0;thing 5 2;thing 5 0;thing 6 1;thing 7 0;");
        for (int town = 0; town < 4; town++) {
            town(town, 0, town);
        }
        town(0, 1, 0);
        town(1, 1, 5);
        town(2, 1, 6);
        town(3, 1, 7);
        town(0, 2, 2);
        town(0, 3, 7);
        town(1, 2, 0);
        town(1, 3, 0);
        town(3, 2, 9);
        town(3, 3, 99);
        town(0, 4, 5);
        town(0, 5, 11);
        town(1, 4, 2);
        town(1, 5, 4);
        town(2, 4, 0);
        town(2, 5, 0);
        town(4, 0, MISSING);
        town(-1, 0, MISSING);
        town(0, 6, MISSING);
        town(0, -1, MISSING);
        trunk(0, 0, 0);
        trunk(1, 1, 1);
        trunk(1, 2, 0);
        trunk(0, 3, 10);
        trunk(1, 3, 4);
        trunk(2, 3, 1);
        trunk(3, 0, MISSING);
        trunk(-1, 0, MISSING);
        trunk(0, 4, MISSING);
        trunk(0, -1, MISSING);
        days(1, 1);
        send(0, 1, 4);
        town(0, 4, 4);
        town(1, 4, 2);
        trunk(0, 0, NONE);
        trunk(0, 1, 1);
        trunk(0, 2, 4);
        days(2, 3);
        trunk(0, 0, NONE);
        days(1, 4);
        trunk(0, 0, 1);
        trunk(0, 2, 4);
        town(1, 4, 3);
        town(1, 5, 14);
    }

    private static void ways() {
        start("promises 8 and 17");
        tell("town careful;".repeat(5) + "train 0 1 9;train 0 2 2;train 2 1 7;train 0 3 2;train 3 1 7;train 1 4 1;");
        way(0, 0, 0);
        way(0, 1, 9);
        way(0, 4, 10);
        way(2, 4, 8);
        way(4, 0, NONE);
        way(2, 3, NONE);
        way(5, 0, MISSING);
        way(0, 5, MISSING);
        way(-1, 0, MISSING);
        way(0, -1, MISSING);
        // of three ways of 9 days the row 0 1 is the first
        clerk(0, 1, NONE, 1);
        clerk(0, 4, NONE, 2);
        clerk(0, 4, 0, 0);
        clerk(0, 4, 1, 1);
        clerk(0, 4, 2, MISSING);
        clerk(0, 4, -2, MISSING);
        clerk(4, 0, NONE, MISSING);
        clerk(0, 0, NONE, 0);
        clerk(0, 0, 0, MISSING);
        clerk(5, 0, NONE, MISSING);
        clerk(0, 5, NONE, MISSING);
        tell("town careful;".repeat(5) + "train 0 4 9;train 0 2 4;train 2 4 5;train 0 3 5;train 3 4 4;");
        // 0 2 4 stands ahead of 0 3 4 and of 0 4, though that has fewer trains
        clerk(0, 4, NONE, 2);
        clerk(0, 4, 1, 2);
        tell("town careful;".repeat(5) + "train 0 4 9;train 4 3 1;train 3 2 1;train 2 1 1;train 0 1 9;");
        clerk(0, 1, NONE, 1);
        clerk(0, 2, NONE, 3);
        clerk(0, 2, 1, 4);
        clerk(0, 2, 2, 3);
        way(0, 2, 11);
    }

    private static void pricesAndFillers() {
        start("promises 9 and 10");
        String world = "town careful lends 1 5;town careful;town careful lends 2 0;trunk 0;trunk 1;"
                + "thing 1 0;thing 2 0;thing 1 0;thing 3 1;";
        tell(world + "play 1 1;play 1 1 1;play 1 2 2;play 1 4 1 1;like 1 2 3;like 3 2 1;like 2 1 9;");
        price(0, 0, 1, 0);
        price(0, 1, 2, 9);
        price(0, 0, 2, 5);
        price(0, 1, 8, NONE);
        price(0, 1, 0, NONE);
        price(0, 0, 0, 5);
        price(0, 2, 15, 0);
        price(1, 1, 3, 9);
        price(1, 1, 5, 0);
        price(1, 1, 2, NONE);
        price(1, 0, 2, 14);
        price(1, 0, 0, NONE);
        price(1, 2, 0, 0);
        price(2, 1, 15, 1);
        price(2, 1, 7, 3);
        price(2, 1, 5, 6);
        price(2, 0, 1, 8);
        price(3, 0, 5, 5);
        price(3, 0, 3, 14);
        price(3, 1, 15, NONE);
        price(3, 2, 1, 0);
        price(0, 0, 16, BAD);
        price(0, 0, -1, BAD);
        price(0, 0, 1 << 31, BAD);
        price(4, 0, 16, MISSING);
        price(-1, 0, 0, MISSING);
        price(0, 3, 16, MISSING);
        price(0, -1, 0, MISSING);
        // in town 0 are things 0 1 2, in town 1 thing 3, in town 2 none
        filled(0, 0, 0, 0);
        filled(1, 0, 0, 0);
        filled(1, 0, 1, 2);
        filled(2, 0, 0, 0);
        filled(2, 0, 1, 1);
        filled(3, 0, 0, 99);
        filled(3, 0, 1, 0);
        filled(3, 0, 2, 2);
        filled(0, 1, 0, NONE);
        filled(2, 1, 1, NONE);
        filled(1, 2, 0, 99);
        filled(1, 2, 1, 99);
        filled(0, 0, 1, MISSING);
        filled(0, 0, -1, MISSING);
        filled(1, 1, 2, MISSING);
        filled(4, 0, 0, MISSING);
        filled(0, 3, 0, MISSING);
        // lent ones stand behind all things, so the first row has them last
        tell("town careful lends 1 0;trunk 0;thing 1 0;thing 1 0;play 1 1 1;play 1 1 1 1;");
        price(0, 0, 3, 0);
        filled(0, 0, 0, 0);
        filled(0, 0, 1, 1);
        filled(1, 0, 2, 99);
        price(1, 0, 3, 0);
    }

    private static void tonights() {
        start("promises 11 and 12");
        String world = "town careful lends 1 4;town careful lends 1 4;trunk 0;thing 1 0;";
        tell(world + "play 9 1;play 5 2;play 5 3;play 1 7 7;");
        tonight(0, 0, 0);
        tonight(1, 0, 4);
        both(0, 1, 9, 8);
        both(1, 0, 9, 8);
        both(0, 0, NONE, NONE);
        tell(world + "play 9 1;play 5 2;play 5 3;play 1 7 7;troupe 8;");
        tonight(0, 1, 4);
        both(0, 1, NONE, NONE);
        tell(world + "play 9 1;play 5 2;play 5 3;play 1 7 7;troupe 14;");
        both(0, 1, 1, 4);
        both(1, 0, 8, 4);
        tell(world + "play 9 1;play 5 2;play 5 3;play 1 7 7;troupe 18;");
        both(0, 1, 0, 4);
        tell(world + "play 9 1;play 5 2;play 5 3;play 1 7 7;troupe 1;");
        tonight(0, NONE, NONE);
        due("tonight(0, 2)", MISSING, () -> x.tonight(0, 2));
        due("tonight(0, -1)", MISSING, () -> x.tonight(0, -1));
        tonight(2, MISSING, MISSING);
        due("both(0, 0, 2)", MISSING, () -> x.both(0, 0, 2));
        due("both(0, 1, -1)", MISSING, () -> x.both(0, 1, -1));
        both(0, 2, MISSING, MISSING);
        both(-1, 0, MISSING, MISSING);
        both(2, 2, MISSING, MISSING);
        tell("town careful;play 1 1;");
        tonight(0, NONE, NONE);
    }

    private static void sendings() {
        start("promises 13 and 15");
        tell("town drunk 1000;town lazy 1000;town slow 1000;train 0 1 2;train 1 2 3;train 0 2 9;trunk 0;trunk 2;");
        send(0, 0, NONE);
        send(1, 0, NONE);
        count(11, 2);
        count(7, 0);
        send(2, 0, MISSING);
        send(-1, 0, MISSING);
        send(0, 3, MISSING);
        send(0, -1, MISSING);
        count(11, 2);
        // nobody slips without a seed
        send(0, 2, 5);
        send(0, 2, NONE);
        send(0, 1, NONE);
        count(11, 4);
        trunk(0, 0, NONE);
        days(0, 0);
        days(5, 5);
        trunk(0, 0, 2);
        days(99, 104);
        days(100, BAD);
        days(-1, BAD);
        days(Integer.MIN_VALUE, BAD);
        count(5, 104);
        trunk(0, 2, 5);
    }

    private static void slips() {
        start("promises 13 and 14, slips");
        String path = "train 0 1 2;train 1 2 3;trunk 0;";
        tell("town slow 1000;town slow 1000;town careful;" + path);
        seed(1);
        send(0, 2, 7);
        trunk(0, 1, 2);
        tell("town slow 1000;town lazy 1000;town careful;" + path);
        seed(1);
        send(0, 2, 3);
        trunk(0, 1, 1);
        tell("town lazy 1000;town lazy 1000;town careful;" + path);
        seed(1);
        days(4, 4);
        send(0, 2, 4);
        trunk(0, 0, 0);
        trunk(0, 2, 4);
        count(7, 2);
        // no other train goes from there, so the drunk ones don't slip
        tell("town drunk 1000;town drunk 1000;town careful;" + path);
        seed(1);
        send(0, 2, 5);
        trunk(0, 1, 2);
        tell("town slow 1000;town drunk 1000;town careful;town careful;train 1 3 1;train 1 0 9;" + path);
        seed(1);
        send(0, 2, 12);
        trunk(0, 1, 0);
        // seed 0 draws 0 first, as 12345 has no bit above the 13th
        int second = (12345 * 1103515245 + 12345 >>> 16 & 0x7fff) % 1000;
        tell("town slow 1;town slow " + second + ";town careful;" + path);
        seed(0);
        send(0, 2, 6);
        tell("town careful;town slow " + (second + 1) + ";town careful;" + path);
        seed(0);
        send(0, 2, 6);
        tell("town slow 0;town slow " + second + ";town careful;" + path);
        seed(0);
        send(0, 2, 5);
    }

    private static void undone() {
        start("promise 16");
        tell("town slow 500;town slow 500;train 0 1 1;train 1 0 1;trunk 0;");
        undo(false);
        seed(9);
        int[] comes = new int[20];
        for (int i = 0; i < 20; i++) {
            comes[i] = x.send(0, 1 - i % 2);
            x.days(9);
        }
        count(7, 40);
        for (int i = 19; i >= 0; i--) {
            undo(true);
            trunk(0, 2, comes[i]);
            undo(true);
            count(5, 9 * i);
            trunk(0, 0, i % 2);
        }
        undo(false);
        for (int i = 0; i < 20; i++) {
            send(0, 1 - i % 2, comes[i]);
            x.days(9);
        }
        start("promise 16, the seed goes back too");
        tell("town careful;town careful;train 0 1 1;trunk 0;");
        days(1, 1);
        seed(5);
        send(0, 1, 2);
        undo(true);
        count(8, 1);
        undo(true);
        count(8, 0);
        start("promise 16, at most 100");
        tell("town careful;");
        for (int i = 0; i < 130; i++) {
            x.days(1);
        }
        count(7, 100);
        for (int i = 0; i < 100; i++) {
            undo(true);
        }
        undo(false);
        count(5, 30);
        count(7, 0);
        days(2, 32);
        undo(true);
        count(5, 30);
    }

    private static void lostTrunks() {
        start("promise 18");
        tell("town drunk 500;town lazy 250;town careful;town slow 900;train 0 1 1;train 1 2 1;train 2 3 1;train 0 2 9;");
        lost(0, 2, 0, 4, 5);
        lost(0, 2, 1, 1, 5);
        lost(0, 3, 2, 0, 1);
        lost(2, 3, 0, 0, 1);
        lost(1, 2, 0, 1, 1);
        lost(0, 2, 2, MISSING, MISSING);
        lost(0, 2, NONE, MISSING, MISSING);
        lost(2, 0, 0, MISSING, MISSING);
        lost(0, 0, 0, MISSING, MISSING);
        lost(4, 0, 0, MISSING, MISSING);
        lost(0, 4, 0, MISSING, MISSING);
        due("lost(0, 2, 0, 2)", MISSING, () -> x.lost(0, 2, 0, 2));
        due("lost(0, 2, 0, -1)", MISSING, () -> x.lost(0, 2, 0, -1));
        // a drunk one who can send it nowhere else, and one behind who is sure to lose it
        tell("town drunk 500;town lazy 1000;town lazy 300;town careful;train 0 1 1;train 1 2 1;train 2 3 1;");
        lost(0, 3, 0, 0, 1);
        lost(0, 3, 1, 1, 1);
        lost(0, 3, 2, 0, 1);
        tell("town lazy 999;".repeat(4) + "town careful;train 0 1 1;train 1 2 1;train 2 3 1;train 3 4 1;");
        // 999 in a million millions, of a million millions less one
        lost(0, 4, 3, 1, 1001001001L);
        lost(0, 4, 0, 1000000000L, 1001001001L);
    }

    private static void nights() {
        start("promises 19 and 20");
        tell("town careful;town careful;play 1 1;");
        night(-1, 0, 0, NONE);
        night(100, 0, 0, NONE);
        count(12, 2);
        night(5, 1, 0, 1);
        night(4, 0, 0, NONE);
        night(5, 0, 0, 2);
        night(99, 0, 0, 3);
        night(98, 0, 0, NONE);
        night(99, 0, 0, 4);
        night(99, 0, 0, NONE);
        count(12, 5);
        night(-1, 2, 0, MISSING);
        night(-1, 0, 1, MISSING);
        night(0, -1, 0, MISSING);
        night(0, 0, -1, MISSING);
        count(12, 5);
        count(6, 4);
        forget();
        count(6, 0);
        night(0, 0, 0, 1);
    }

    private static void tours() {
        start("promises 21 and 22");
        tell("town careful lends 1 9;town careful lends 1 9;town careful lends 1 20;"
                + "train 0 1 2;train 1 2 2;train 2 0 1;trunk 0;trunk 2;thing 1 0;thing 1 1;play 1 1;play 1 1 1;troupe 1;");
        rides(MISSING);
        tour(0);
        rides(0, 0, MISSING);
        // trunk 1 can come from 2 over 0 on day 3, so trunk 0 need not go
        night(3, 1, 0, 1);
        tour(0);
        rides(0, 1);
        night(3, 0, 0, 2);
        tour(0);
        rides(1, 2);
        // in 2 on day 5 from 1, not from 0, as that takes 4 days; 2 5 stands ahead of 5 2
        night(5, 2, 0, 3);
        tour(0);
        rides(2, 5);
        night(5, 1, 0, 4);
        tour(0);
        rides(5, 10);
        // on days gone by there are lent things alone; trunk 0 is in 1 on day 6 at the soonest, trunk 1 in 2
        days(4, 4);
        tour(9 + 9 + 9);
        rides(0, 4);
        undo(true);
        // trunk 0 is in 1 from day 2 on
        send(0, 1, 2);
        tour(0);
        rides(5, 10);
        forget();
        night(0, 2, 1, 1);
        night(1, 0, 1, 2);
        // on day 0 in 2 trunk 1 and a lent one; on day 1 in 0 trunk 1 and a lent one
        tour(29);
        rides(0, 3);
        night(1, 1, 1, 3);
        tour(NONE);
        rides(0, 3);
        due("rides(2)", MISSING, () -> x.rides(2));
        due("rides(-1)", MISSING, () -> x.rides(-1));
    }

    private static void sparedTrunks() {
        start("promise 23");
        String world = "town careful lends 1 9;town careful;train 0 1 1;trunk 0;trunk 0;trunk 1;"
                + "thing 1 0;thing 2 1;thing 3 2;like 2 1 4;like 3 1 7;";
        tell(world + "play 1 1;play 1 1 1;play 1 8;");
        spared(0, 0);
        night(1, 1, 0, 1);
        tour(0);
        rides(1, 0, 0);
        spared(1, 0);
        rides(1, 0, 0);
        forget();
        night(1, 1, 1, 1);
        tour(4);
        rides(1, 1, 0);
        // without 0: 4 and 7; without 1: 0 and 7; without 2: 0 and 4
        spared(2, 4);
        night(2, 0, 0, 2);
        // trunk 0 stays, and 2 and 3 stand for 1; without 0 it is 11 and 9, without 1 7 and 9, without 2 4 and 9
        tour(11);
        spared(2, 13);
        forget();
        night(0, 1, 2, 1);
        tour(NONE);
        spared(NONE, NONE);
        due("spared(2)", MISSING, () -> x.spared(2));
        due("spared(-1)", MISSING, () -> x.spared(-1));
        tell("town careful lends 1 9;play 1 1;");
        night(1, 0, 0, 1);
        tour(9);
        spared(NONE, NONE);
    }

    private static void unopenedTrunks() {
        start("promise 24");
        tell("town careful lends 2 9;town careful;trunk 0;thing 1 0;play 1 1 2;play 1 5;like 3 2 4;");
        // without it 9; with a thing of sort 2 0, of 3 4, of 4 9
        unopened(0, 0, 201, NONE, NONE, 9);
        unopened(0, 0, NONE, 399, NONE, 5);
        unopened(0, 0, NONE, NONE, 450, 0);
        unopened(0, 0, 201, 301, 402, 9 - (0 + 4 + 18) / 4);
        unopened(0, 0, 201, 201, 302, 7);
        unopened(0, 0, 200, 301, NONE, 5);
        // nothing is in town 1: there is no price, so 1000 without it
        unopened(0, 1, 201, NONE, NONE, 0);
        unopened(1, 1, 501, NONE, NONE, 1000);
        unopened(1, 1, 501, 102, NONE, 1000 - 2000 / 3);
        unopened(0, 0, NONE, NONE, NONE, BAD);
        unopened(0, 0, 200, 300, NONE, BAD);
        unopened(0, 0, -2, 201, NONE, BAD);
        unopened(0, 0, 201, 2000, NONE, BAD);
        unopened(0, 0, 201, NONE, Integer.MAX_VALUE, BAD);
        unopened(0, 0, 0, 1999, NONE, 0);
        unopened(2, 0, NONE, NONE, NONE, MISSING);
        unopened(0, 2, -2, NONE, NONE, MISSING);
        unopened(-1, 0, 201, NONE, NONE, MISSING);
        unopened(0, -1, 201, NONE, NONE, MISSING);
    }

    private static void images() {
        start("promises 25 and 26");
        String world = "town slow 500;town slow 500;train 0 1 1;train 1 0 1;trunk 0;trunk 0;play 1 1;";
        tell(world);
        restore(false);
        seed(77);
        send(1, 1, firstComing(77));
        days(9, 9);
        night(9, 0, 0, 1);
        send(0, 0, NONE);
        image();
        int comes = x.send(0, 1);
        days(9, 18);
        night(20, 1, 0, 2);
        night(0, 1, 0, NONE);
        send(0, 1, NONE);
        tellFault("x", 1, 0);
        restore(true);
        count(5, 9);
        count(6, 1);
        count(7, 0);
        count(8, 1);
        count(10, 0);
        count(11, 1);
        count(12, 0);
        undo(false);
        trunk(0, 0, 0);
        trunk(1, 0, 1);
        send(0, 1, comes);
        due("fault() is no part of it", 0, () -> x.fault());
        // it stays, until another one comes in its place
        restore(true);
        trunk(0, 0, 0);
        days(1, 10);
        image();
        days(1, 11);
        restore(true);
        count(5, 10);
        start("promise 26, no seed in the image");
        tell(world);
        image();
        seed(1);
        restore(true);
        count(8, 0);
        start("promise 26, nights whole");
        tell("town careful lends 2 3;town careful lends 2 5;play 1 1;play 1 1 1;");
        night(7, 1, 1, 1);
        image();
        forget();
        night(2, 0, 0, 1);
        tour(3);
        restore(true);
        tour(10);
        night(6, 0, 0, NONE);
        start("promise 26, what tour is kept stays");
        tell("town careful;town careful;train 0 1 1;trunk 0;thing 1 0;play 1 1;");
        image();
        night(1, 1, 0, 1);
        tour(0);
        restore(true);
        count(6, 0);
        rides(1);
        tell(world);
        restore(false);
    }

    private static int firstComing(int seed) {
        int draw = (seed * 1103515245 + 12345 >>> 16 & 0x7fff) % 1000;
        return draw < 500 ? 2 : 1;
    }
}
