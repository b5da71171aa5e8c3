/**
 * What the document's part 1 and promises 1 to 4 say of boundaries, a part for each such sentence: the case at the
 * boundary and the one just beyond it. The part's name is the sentence.
 */
public final class TextBoundariesTest extends Checks {
    private static final String TOWN = "town careful;";

    public static void main(String[] args) {
        towns();
        clerks();
        lenders();
        trains();
        trunksAndThings();
        plays();
        likes();
        troupes();
        lengthOfText();
        tokens();
        emptyTexts();
        textsThatEndTooSoon();
        tokensThatCannotStand();
        tooMuch();
        notTold();
        toldTwice();
        secondTroupe();
        firstAndLeast();
        newObject();
        feed();
        told();
        toldWithFault();
        toldRefused();
        places();
        report();
    }

    /** Of a NUMBER: the least and the greatest that are fine, and the ones beside them as FAULT 2 at its place. */
    private static void bounds(String ahead, int least, int most, String behind) {
        tell(ahead + least + behind);
        tell(ahead + most + behind);
        if (least > 0) {
            tellFault(ahead + (least - 1) + behind, 2, ahead.length());
        }
        tellFault(ahead + (most + 1) + behind, 2, ahead.length());
    }

    // ---- the terms of part 1

    private static void towns() {
        start("TOWNS 0, 1 .. (at most 5)");
        tell(TOWN.repeat(5));
        count(0, 5);
        town(0, 0, 0);
        town(4, 0, 0);
        town(5, 0, MISSING);
        town(-1, 0, MISSING);
        tellFault(TOWN.repeat(6), 2, 65);
    }

    private static void clerks() {
        start("each with a CLERK of a KIND: 0 careful, 1 drunk, 2 slow, 3 lazy");
        tell("town careful;town drunk 1;town slow 2;town lazy 3;");
        for (int kind = 0; kind < 4; kind++) {
            town(kind, 0, kind);
            town(kind, 1, kind);
        }
        tellFault("town sober 1;", 1, 5);
        for (String kind : new String[] {"drunk", "slow", "lazy"}) {
            start("with a CHANCE (0 to 1000, of a thousand) to SLIP: " + kind);
            bounds("town " + kind + " ", 0, 1000, ";");
            town(0, 1, 1000);
            tellFault("town " + kind + ";", 1, 5 + kind.length());
        }
        start("(of a careful one 0)");
        tell("town drunk 7;town careful;");
        town(1, 1, 0);
        tellFault("town careful 0;", 1, 13);
    }

    private static void lenders() {
        start("it LENDS so many things (0 to 9; 0 without)");
        bounds("town careful lends ", 0, 9, " 5;");
        town(0, 2, 9);
        tell(TOWN);
        town(0, 2, 0);
        start("each at a COST (0 to 99; 0 without)");
        bounds("town careful lends 5 ", 0, 99, ";");
        town(0, 3, 99);
        tell(TOWN);
        town(0, 3, 0);
        tell("town drunk 3 lends 4 8;town drunk 3;");
        town(0, 2, 4);
        town(0, 3, 8);
        town(1, 2, 0);
        town(1, 3, 0);
    }

    private static void trains() {
        start("TRAINS: from a TOWN to another one in so many DAYS (1 to 9)");
        bounds(TOWN + TOWN + "train 1 0 ", 1, 9, ";");
        way(1, 0, 9);
        way(0, 1, NONE);
        start("TRAINS, from each TOWN to each other one");
        StringBuilder all = new StringBuilder(TOWN.repeat(5));
        for (int pair = 0; pair < 25; pair++) {
            if (pair / 5 != pair % 5) {
                all.append("train ").append(pair / 5).append(' ').append(pair % 5).append(" 9;");
            }
        }
        tell(all.toString());
        for (int pair = 0; pair < 25; pair++) {
            way(pair / 5, pair % 5, pair / 5 == pair % 5 ? 0 : 9);
        }
    }

    private static void trunksAndThings() {
        start("TRUNKS 0, 1 .. (at most 5), each at a TOWN at first");
        tell(TOWN.repeat(5) + "trunk 4;trunk 3;trunk 2;trunk 1;trunk 0;");
        count(1, 5);
        for (int trunk = 0; trunk < 5; trunk++) {
            trunk(trunk, 0, 4 - trunk);
            town(trunk, 4, 1 << 4 - trunk);
        }
        trunk(5, 0, MISSING);
        tellFault(TOWN + "trunk 0;".repeat(6), 2, 13 + 40);
        start("THINGS 0, 1 .. (at most 10)");
        tell(TOWN + "trunk 0;" + "thing 3 0;".repeat(10) + "play 1 3;");
        count(2, 10);
        trunk(0, 3, 1023);
        price(0, 0, 512, 0);
        price(0, 0, 1024, BAD);
        tellFault(TOWN + "trunk 0;" + "thing 3 0;".repeat(11), 2, 21 + 100);
        start("a SORT (0 to 19), in a TRUNK");
        bounds(TOWN + "trunk 0;thing ", 0, 19, " 0;");
        tell(TOWN + "trunk 0;".repeat(5) + "thing 19 4;thing 0 0;play 1 19;play 1 0;");
        trunk(0, 3, 2);
        trunk(4, 3, 1);
        price(0, 0, 1, 0);
        price(0, 0, 2, NONE);
        price(1, 0, 2, 0);
        price(1, 0, 1, NONE);
    }

    private static void plays() {
        start("PLAYS 0, 1 .. (at most 4)");
        tell(TOWN + "play 1 1;".repeat(4));
        count(3, 4);
        price(3, 0, 0, NONE);
        price(4, 0, 0, MISSING);
        tellFault("play 1 1;".repeat(5), 2, 36);
        start("a CAST (1 to 20)");
        bounds("play ", 1, 20, " 1;");
        start("NEEDS (1 to 4 SORTS, perhaps like ones)");
        tell("town careful lends 9 1;play 1 7;play 1 7 7;play 1 7 7 7;play 1 7 7 7 7;");
        for (int play = 0; play < 4; play++) {
            price(play, 0, 0, play + 1);
            filled(play, 0, play, 99);
            filled(play, 0, play + 1, MISSING);
        }
        tellFault("play 1;", 1, 6);
        tellFault("play 1 7 7 7 7 7;", 2, 15);
        start("NEEDS, each a SORT (0 to 19)");
        bounds("play 1 ", 0, 19, ";");
        bounds("play 1 1 ", 0, 19, ";");
        bounds("play 1 1 1 1 ", 0, 19, ";");
    }

    private static void likes() {
        start("LIKE: a THING of one SORT may stand for another SORT at a SHAME (0 to 99)");
        bounds("like 1 2 ", 0, 99, ";");
        bounds("like ", 0, 19, " 7 1;");
        bounds("like 7 ", 0, 19, " 1;");
        String world = TOWN + "trunk 0;thing 1 0;thing 2 0;play 1 1;play 1 2;";
        tell(world + "like 1 2 99;");
        price(1, 0, 1, 99);
        price(0, 0, 2, NONE);
        tell(world + "like 1 2 0;");
        price(1, 0, 1, 0);
        tell(world);
        price(1, 0, 1, NONE);
        start("LIKE, as many as a TEXT has room for");
        StringBuilder all = new StringBuilder();
        for (int pair = 0; all.length() < 700; pair++) {
            if (pair / 9 != pair % 9) {
                all.append("like").append(pair / 9).append(' ').append(pair % 9).append(" 1;");
            }
        }
        tell(all.toString());
    }

    private static void troupes() {
        start("TROUPE: how many they are (1 to 40; 11 without)");
        bounds("troupe ", 1, 40, ";");
        count(4, 40);
        tell("troupe 1;");
        count(4, 1);
        tell("");
        count(4, 11);
    }

    // ---- the text and its tokens

    private static void lengthOfText() {
        start("A TEXT of at most 700 bytes tells it");
        tell(" ".repeat(687) + TOWN);
        count(0, 1);
        tellFault(" ".repeat(688) + TOWN.substring(0, 12), 1, 700);
        start("A TEXT of at most 700 bytes: none come beyond");
        feedText(" ".repeat(700));
        due("feed", NONE, () -> x.feed(0, 0, 0, 0, 0));
        due("told(701)", BAD, () -> x.told(701));
        due("told(700)", 0, () -> x.told(700));
    }

    private static void tokens() {
        start("words (a .. z, the longest row)");
        tellFault("towncareful;", 1, 0);
        tellFault("townz careful;", 1, 0);
        tellFault("town carefula;", 1, 5);
        tellFault("town carefu", 1, 5);
        tellFault("town`careful;", 1, 4);
        tellFault("town{careful;", 1, 4);
        tellFault("tOwn careful;", 1, 0);
        tellFault("TOWN careful;", 1, 0);
        tell("town careful lends9 9;");
        town(0, 2, 9);
        for (String line : LINES) {
            String[] tokens = line.split(" ");
            start("words: each letter counts: " + line);
            for (int i = 0; i < tokens[0].length(); i++) {
                tellFault(changed(tokens[0], i) + " 0;", 1, 0);
            }
            for (int i = 0; line.startsWith("town") && i < tokens[1].length(); i++) {
                tellFault("town " + changed(tokens[1], i) + " 0;", 1, 5);
            }
        }
        start("words: each letter counts: lends");
        for (int i = 0; i < 5; i++) {
            tellFault("town careful " + changed("lends", i) + " 0 0;", 1, 13);
        }
        start("words of a like end");
        tellFault("town trunk 5;", 1, 5);
        tellFault("drunk 0;", 1, 0);
        start("NUMBERS (1 to 4 digits)");
        tell("town drunk 7;town drunk 77;town drunk 777;town drunk 0777;town drunk 0000;");
        town(0, 1, 7);
        town(1, 1, 77);
        town(2, 1, 777);
        town(3, 1, 777);
        town(4, 1, 0);
        tellFault("town drunk 00777;", 2, 11);
        tellFault("town drunk 00000;", 2, 11);
        tellFault("town drunk /7;", 1, 11);
        tellFault("town drunk 7:;", 1, 12);
        tellFault("town drunk -7;", 1, 11);
        tellFault("town drunk +7;", 1, 11);
        start("NUMBERS that would wrap an int");
        tellFault("town drunk 4294967297;", 2, 11);
        tellFault("town drunk " + "9".repeat(600) + ";", 2, 11);
        start("the sign ;");
        tell("town careful;town careful ;town careful; ");
        count(0, 3);
        tellFault("town careful:", 1, 12);
        tellFault("town careful<", 1, 12);
        tellFault(";town careful;", 1, 0);
        tellFault("town careful;;", 1, 13);
        start("and blanks (32, 10) between them, which count for nothing");
        tell("\n \n town\ncareful\n\n lends \n1 \n 2\n;\n \n");
        town(0, 3, 2);
        tell("town careful lends1 2;trunk0;thing3 0;");
        count(2, 1);
        for (char sign : new char[] {0, 9, 11, 12, 13, 31, 33, 127, 128, 160, 255}) {
            tellFault("town careful" + sign + ";", 1, 12);
            tellFault(TOWN + sign, 1, 13);
        }
    }

    /** With the letter behind it in place of the i-th one. */
    private static String changed(String word, int i) {
        return word.substring(0, i) + (char) (word.charAt(i) + 1) + word.substring(i + 1);
    }

    private static void emptyTexts() {
        start("TELLS: LINE*, of none");
        tell("");
        tell(" ");
        tell("\n");
        count(0, 0);
        tell(" \n".repeat(350));
        count(0, 0);
    }

    // ---- the faults

    /** LINES with all their TOKENS, each behind a world in which it can stand. */
    private static final String WORLD = TOWN + TOWN + "trunk 0;";
    private static final String[] LINES = {
        "town careful ;", "town careful lends 1 2 ;", "town drunk 3 ;", "town slow 3 lends 1 2 ;", "town lazy 3 ;",
        "train 0 1 2 ;", "trunk 1 ;", "thing 3 0 ;", "play 5 3 ;", "play 5 3 3 3 3 ;", "like 1 2 3 ;", "troupe 5 ;"
    };

    private static void textsThatEndTooSoon() {
        for (String line : LINES) {
            start("1 a TOKEN that is none (the text's length where it ends too soon): " + line);
            String[] tokens = line.split(" ");
            String text = WORLD + tokens[0];
            for (int i = 1; i < tokens.length; i++) {
                tellFault(text, 1, text.length());
                tellFault(text + " \n", 1, text.length() + 2);
                text = text + " " + tokens[i];
            }
            tell(text);
        }
        start("1 the text's length where it ends too soon: as told(), not as the tape says it");
        feedText(TOWN);
        due("told(12)", 1, () -> x.told(12));
        fault(12);
        feedText(TOWN);
        due("told(13)", 0, () -> x.told(13));
        start("Promise 3: the first n bytes: a TOKEN or blanks at their end don't go on behind them");
        feedText("town careful        ");
        due("told(12)", 1, () -> x.told(12));
        fault(12);
        feedText("town carefully;");
        due("told(12)", 1, () -> x.told(12));
        fault(12);
        feedText("town slow 10;");
        due("told(11)", 1, () -> x.told(11));
        fault(11);
        feedText("town slow 1;;");
        due("told(12)", 0, () -> x.told(12));
        feedText("town slow 1;x");
        due("told(13)", 1, () -> x.told(13));
        fault(12);
    }

    private static void tokensThatCannotStand() {
        for (String line : LINES) {
            start("1 a TOKEN that can't stand there, or is none: " + line);
            String[] tokens = line.split(" ");
            String text = WORLD;
            for (int i = 0; i < tokens.length; i++) {
                tellFault(text + "? ;", 1, text.length());
                tellFault(text + "with ;", 1, text.length());
                boolean numbers = tokens[i].charAt(0) >= '0' && tokens[i].charAt(0) <= '9';
                // more SORTS can stand behind the one of a PLAY
                boolean more = line.startsWith("play") && i == tokens.length - 1;
                if (!numbers && !more) {
                    tellFault(text + "3 ;", 1, text.length());
                    tellFault(text + "33333 ;", 1, text.length());
                }
                boolean mayEnd = tokens[i].equals(";") || tokens[i].equals("lends") || line.startsWith("play") && i > 2;
                if (!mayEnd) {
                    tellFault(text + ";", 1, text.length());
                }
                text = text + tokens[i] + " ";
            }
        }
        start("1 a TOKEN that can't stand there: words of the text in another's place");
        tellFault("careful;", 1, 0);
        tellFault("lends 1 1;", 1, 0);
        tellFault("town town careful;", 1, 5);
        tellFault("town lends 1 1;", 1, 5);
        tellFault("town drunk lends 1 1;", 1, 11);
        tellFault("town drunk careful;", 1, 11);
        tellFault("town careful lends 1 lends;", 1, 21);
        tellFault("town careful lends 1 1 lends 1 1;", 1, 23);
        tellFault("troupe 5 play 1 1;", 1, 9);
        tellFault("play 1 1 play 1 1;", 1, 9);
    }

    private static void tooMuch() {
        start("2 one that can, but is too much: a NUMBER of 5 digits or more");
        tell(TOWN + "troupe 0005;");
        for (String many : new String[] {"00000", "00001", "10000", "99999", "000000"}) {
            tellFault("town drunk " + many + ";", 2, 11);
            tellFault("town slow 1 lends " + many + " 1;", 2, 18);
            tellFault("town slow 1 lends 1 " + many + ";", 2, 20);
            tellFault(WORLD + "train " + many + " 1 1;", 2, 40);
            tellFault(WORLD + "train 0 " + many + " 1;", 2, 42);
            tellFault(WORLD + "train 0 1 " + many + ";", 2, 44);
            tellFault(WORLD + "trunk " + many + ";", 2, 40);
            tellFault(WORLD + "thing " + many + " 0;", 2, 40);
            tellFault(WORLD + "thing 1 " + many + ";", 2, 42);
        }
        start("2 a NUMBER of 5 digits or more, of PLAYS, LIKE and TROUPE");
        for (String many : new String[] {"00000", "00001", "10000", "99999", "000000"}) {
            tellFault("play " + many + " 1;", 2, 5);
            tellFault("play 1 " + many + ";", 2, 7);
            tellFault("play 1 1 " + many + ";", 2, 9);
            tellFault("like " + many + " 1 1;", 2, 5);
            tellFault("like 1 " + many + " 1;", 2, 7);
            tellFault("like 1 2 " + many + ";", 2, 9);
            tellFault("troupe " + many + ";", 2, 7);
        }
        start("2 the first TOKEN of the 6th TOWN");
        tell(TOWN.repeat(5) + " ");
        tellFault(TOWN.repeat(5) + " \ntown", 2, 67);
        tellFault(TOWN.repeat(5) + "town sober;", 2, 65);
        tellFault(TOWN.repeat(5) + "tow", 1, 65);
        start("2 the first TOKEN of the 6th TRUNK");
        tell(TOWN + "trunk 0;".repeat(5) + " ");
        tellFault(TOWN + "trunk 0;".repeat(5) + " trunk", 2, 54);
        tellFault(TOWN + "trunk 0;".repeat(5) + "trunk 9;", 2, 53);
        start("2 the first TOKEN of the 11th THING");
        tell(TOWN + "trunk 0;" + "thing 1 0;".repeat(10) + " ");
        tellFault(TOWN + "trunk 0;" + "thing 1 0;".repeat(10) + " thing", 2, 122);
        tellFault(TOWN + "trunk 0;" + "thing 1 0;".repeat(10) + "thing 20 9;", 2, 121);
        start("2 the first TOKEN of the 5th PLAY");
        tell("play 1 1;".repeat(4) + " ");
        tellFault("play 1 1;".repeat(4) + " play", 2, 37);
        tellFault("play 1 1;".repeat(4) + "play 0;", 2, 36);
        start("2 the 5th SORT of a PLAY");
        tell("play 1 1 2 3 4;");
        tellFault("play 1 1 2 3 4 5", 2, 15);
        tellFault("play 1 1 2 3 4 5 6;", 2, 15);
        tellFault("play 1 1 2 3 4", 1, 14);
        tellFault("play 1 1 2 3 4 x;", 1, 15);
    }

    private static void notTold() {
        start("3 a TOWN that isn't told ahead");
        tell(TOWN + "trunk 0;");
        tellFault("trunk 0;" + TOWN, 3, 6);
        tellFault(TOWN + "trunk 1;", 3, 19);
        tellFault(TOWN + "trunk 1;" + TOWN, 3, 19);
        tellFault(TOWN + "trunk 9999;", 3, 19);
        tell(TOWN.repeat(5) + "trunk 4;");
        tellFault(TOWN.repeat(5) + "trunk 5;", 3, 71);
        start("3 a TOWN that isn't told ahead: the first and the second one of a TRAIN");
        tell(TOWN + TOWN + "train 1 0 1;train 0 1 1;");
        tellFault(TOWN + TOWN + "train 2 0 1;", 3, 32);
        tellFault(TOWN + TOWN + "train 0 2 1;", 3, 34);
        tellFault(TOWN + TOWN + "train 2 2 1;", 3, 32);
        tellFault("train 0 1 1;", 3, 6);
        String five = TOWN.repeat(5);
        tell(five + "train 4 0 1;train 0 4 1;");
        tellFault(five + "train 5 0 1;", 3, 71);
        tellFault(five + "train 4 5 1;", 3, 73);
        tellFault(five + "train 5 5 1;", 3, 71);
        tellFault(five + "train 9999 0 1;", 3, 71);
        tellFault(five + "train 0 9999 1;", 3, 73);
        start("3 a TRUNK that isn't told ahead");
        tell(TOWN + "trunk 0;thing 1 0;");
        tellFault(TOWN + "thing 1 0;trunk 0;", 3, 21);
        tellFault(TOWN + "trunk 0;thing 1 1;", 3, 29);
        tellFault(TOWN + "trunk 0;thing 1 9999;", 3, 29);
        tell(TOWN + "trunk 0;".repeat(5) + "thing 1 4;");
        tellFault(TOWN + "trunk 0;".repeat(5) + "thing 1 5;", 3, 61);
        tellFault(TOWN + TOWN + "trunk 0;thing 1 1;", 3, 42);
    }

    private static void toldTwice() {
        String three = TOWN.repeat(3);
        start("4 the second TOWN of a TRAIN that is the first one");
        tell(three + "train 1 0 1;train 1 2 1;");
        tellFault(three + "train 1 1 1;", 4, 47);
        tellFault(three + "train 1 0001 1;", 4, 47);
        start("4 or to which there is one from there already");
        tell(three + "train 0 1 1;train 1 0 1;train 0 2 1;train 2 1 1;");
        tellFault(three + "train 0 1 1;train 0 1 9;", 4, 59);
        tellFault(three + "train 0 1 1;train 1 0 1;train 2 0 1;train 1 0 1;", 4, 83);
        start("4 the second SORT of LIKE that is the first one");
        tell("like 3 2 1;like 3 4 1;");
        tellFault("like 3 3 1;", 4, 7);
        tellFault("like 0 0 1;", 4, 7);
        tellFault("like 19 19 1;", 4, 8);
        tellFault("like 3 003 1;", 4, 7);
        start("4 or of two that were told already");
        tell("like 3 4 1;like 4 3 1;like 3 5 1;like 5 4 1;");
        tellFault("like 3 4 1;like 3 4 1;", 4, 18);
        tellFault("like 3 4 0;like 3 4 99;", 4, 18);
        tellFault("like 19 18 1;like 0 1 1;like 19 18 1;", 4, 32);
        start("4 told already, but in a text that had a FAULT, or in an earlier one");
        tellFault("like 3 4 1;x", 1, 11);
        tell("like 3 4 1;");
        tell("like 3 4 1;");
    }

    private static void secondTroupe() {
        start("5 a second 'troupe'");
        tell("troupe 5;");
        tellFault("troupe 5;troupe 5;", 5, 9);
        tellFault("troupe 11;" + TOWN + "\ntroupe", 5, 24);
        tellFault("troupe 5;troupe 99;", 5, 9);
        tellFault("troupe 5;troup 5;", 1, 9);
        tell("troupe 5;");
    }

    private static void firstAndLeast() {
        start("FAULTS, the first along the text");
        tellFault(TOWN + "train 0 0 0;trunk 7;x", 4, 21);
        tellFault(TOWN + "train 7 0 0;trunk 7;x", 3, 19);
        tellFault(TOWN + "thing 20 7;", 2, 19);
        tellFault(TOWN + "thing 19 7;", 3, 22);
        tellFault("troupe 41 troupe", 2, 7);
        tellFault("troupe 40 troupe 5;", 1, 10);
        tellFault("troupe 40;troupe x;", 5, 10);
        tellFault("like 3 3 x", 4, 7);
        tellFault("like 3 x", 1, 7);
        tellFault("play 0 20 x", 2, 5);
        start("at a TOKEN's first byte");
        tellFault(" \n  town \n 77777", 1, 11);
        tellFault("\n\ntown  drunk   1001;", 2, 16);
        tellFault("sometown careful;", 1, 0);
        start("of one TOKEN the least: 1 ahead of 2");
        tellFault("77777", 1, 0);
        tellFault("town 77777;", 1, 5);
        tellFault("troupe 5 77777;", 1, 9);
        start("of one TOKEN the least: 2 ahead of 3");
        tellFault("trunk 00000;", 2, 6);
        tellFault("trunk 10000;", 2, 6);
        tellFault("trunk 9999;", 3, 6);
        tellFault(TOWN + "thing 1 10000;", 2, 21);
        tellFault(TOWN + "thing 1 9999;", 3, 21);
        tellFault(TOWN + "train 0 10000 1;", 2, 21);
        tellFault(TOWN + "train 0 9999 1;", 3, 21);
        start("of one TOKEN the least: 2 ahead of 4");
        tellFault(TOWN + "train 0 00000 1;", 2, 21);
        tellFault(TOWN + "train 0 0000 1;", 4, 21);
        tellFault("like 3 00003 1;", 2, 7);
        tellFault("like 3 0003 1;", 4, 7);
    }

    // ---- promises 1 to 4

    private static void newObject() {
        start("Promise 1: No TOWNS, nothing.");
        for (int what = 0; what <= 12; what++) {
            count(what, what == 4 ? 11 : 0);
        }
        fault(NONE);
        for (int what = 0; what <= 5; what++) {
            town(0, what, MISSING);
            trunk(0, what, MISSING);
        }
        way(0, 0, MISSING);
        price(0, 0, 0, MISSING);
        filled(0, 0, 0, MISSING);
        tonight(0, MISSING, MISSING);
        both(0, 0, MISSING, MISSING);
        both(0, 1, MISSING, MISSING);
        send(0, 0, MISSING);
        clerk(0, 0, NONE, MISSING);
        lost(0, 0, 0, MISSING, MISSING);
        night(0, 0, 0, MISSING);
        rides(MISSING);
        spared(NONE, NONE);
        unopened(0, 0, 101, NONE, NONE, MISSING);
        undo(false);
        restore(false);
        due("told(1)", BAD, () -> x.told(1));
        tour(0);
        rides(MISSING);
        forget();
        image();
        restore(true);
        seed(1);
        count(8, 1);
        days(0, 0);
        start("Promise 1: two objects have nothing in common");
        TroupeTrunks first = x;
        tell(TOWN);
        x = new TroupeTrunks();
        count(0, 0);
        x = first;
        count(0, 1);
    }

    private static void feed() {
        start("Promise 2: Twenty bytes come behind the tape, of each number the highest first: how many it has");
        due("feed", 20, () -> x.feed(0x746f776e, 0x20636172, 0x6566756c, 0x3b747275, 0x6e6b2030));
        count(9, 20);
        due("feed", 40, () -> x.feed(0x3b207472, 0x6f757065, 0x20372020, 0x3b202020, 0x202020ff));
        count(9, 40);
        due("told(39)", 0, () -> x.told(39));
        count(0, 1);
        count(1, 1);
        count(4, 7);
        start("Promise 2: a byte above 127 is no part of the byte ahead of it");
        due("feed", 20, () -> x.feed(0x20202020, 0x20ffffff, -1, -1, -1));
        due("told(5)", 0, () -> x.told(5));
        due("feed", 20, () -> x.feed(0x20202020, 0x20ffffff, -1, -1, -1));
        due("told(6)", 1, () -> x.told(6));
        fault(5);
        start("Promise 2: NONE, and none come, if it would have more than 700");
        for (int bytes = 20; bytes <= 700; bytes += 20) {
            due("feed", bytes, () -> x.feed(0x20202020, 0x20202020, 0x20202020, 0x20202020, 0x20202020));
        }
        idle("feed", NONE, () -> x.feed(0, 0, 0, 0, 0));
        idle("feed", NONE, () -> x.feed(0, 0, 0, 0, 0));
        count(9, 700);
        due("told(700)", 0, () -> x.told(700));
        due("feed", 20, () -> x.feed(0, 0, 0, 0, 0));
    }

    private static void told() {
        start("Promise 3: The tape's first n bytes are told: n 0");
        tell(TOWN);
        feedText("x");
        due("told(0)", 0, () -> x.told(0));
        count(0, 0);
        start("Promise 3: (it is empty then)");
        feedText(TOWN + "          ");
        count(9, 40);
        due("told(13)", 0, () -> x.told(13));
        count(9, 0);
        due("told(1)", BAD, () -> x.told(1));
        due("feed", 20, () -> x.feed(0x20202020, 0x20202020, 0x20202020, 0x20202020, 0x20202020));
        due("told(20)", 0, () -> x.told(20));
        count(0, 0);
        start("Promise 3: all anew");
        tell("town lazy 7 lends 3 4;town slow 5;train 0 1 1;train 1 0 1;trunk 1;trunk 0;thing 1 0;thing 2 1;"
                + "play 3 1 2;play 1 1;like 1 2 5;like 2 1 6;troupe 30;");
        tell("town careful;town careful;trunk 0;thing 1 0;play 1 2;");
        count(0, 2);
        count(1, 1);
        count(2, 1);
        count(3, 1);
        count(4, 11);
        town(0, 0, 0);
        town(0, 1, 0);
        town(0, 2, 0);
        town(0, 3, 0);
        way(0, 1, NONE);
        way(1, 0, NONE);
        trunk(0, 0, 0);
        price(0, 0, 1, NONE);
        filled(0, 0, 1, MISSING);
        filled(1, 0, 0, MISSING);
        price(1, 0, 0, MISSING);
        price(0, 0, 2, BAD);
        trunk(1, 0, MISSING);
        tell(TOWN);
        filled(0, 0, 0, MISSING);
        trunk(0, 0, MISSING);
        town(1, 0, MISSING);
        town(0, 4, 0);
        town(0, 5, 0);
        tonight(0, NONE, NONE);
        start("Promise 3: all anew, DAY 0, no SEED; NIGHTS, what was kept, the image are gone");
        tell(LIVELY);
        makeLively();
        tell(LIVELY);
        count(5, 0);
        count(6, 0);
        count(7, 0);
        count(8, 0);
        trunk(0, 1, 0);
        trunk(0, 2, 0);
        rides(MISSING);
        undo(false);
        restore(false);
        // STATUS is not among what is gone
        count(10, 1);
        count(11, 1);
        count(12, 1);
        night(0, 0, 0, 1);
        send(0, 1, 2);
    }

    private static final String LIVELY =
            "town slow 1000 lends 1 2;town careful;train 0 1 2;trunk 0;trunk 1;thing 1 0;play 1 1;";

    /** Of all that can be asked something that is not as at first. */
    private static void makeLively() {
        tellFault(LIVELY + "x", 1, LIVELY.length());
        seed(3);
        night(50, 0, 0, 1);
        tour(0);
        send(0, 1, 3);
        days(4, 4);
        send(0, 1, NONE);
        night(49, 0, 0, NONE);
        image();
        days(1, 5);
    }

    private static void toldWithFault() {
        start("Promise 3: the FAULT (all stays, but STATUS)");
        tell(LIVELY);
        makeLively();
        String before = state();
        String bad = "town drunk 5;town lazy 6;trunk 1;play 1 2;troupe 7;x";
        tellFault(bad, 1, bad.length() - 1);
        count(10, 2);
        String after = state();
        String due = before.replaceFirst(" 1 1 1 fault " + LIVELY.length(), " 2 1 1 fault " + (bad.length() - 1));
        if (!after.equals(due)) {
            complain("behind a FAULT it is " + after + ", due is " + due);
        }
        town(0, 0, 2);
        town(0, 1, 1000);
        price(0, 1, 1, 0);
        undo(true);
        count(5, 4);
        restore(true);
        count(10, 1);
        start("Promise 3: the FAULT, and the tape is empty then, too");
        feedText(" ".repeat(40));
        feedText("x");
        due("told(41)", 1, () -> x.told(41));
        count(9, 0);
        start("Promise 3: the FAULT of each number");
        tellFault("x", 1, 0);
        tellFault("troupe 0;", 2, 7);
        tellFault("trunk 0;", 3, 6);
        tellFault("like 1 1 1;", 4, 7);
        tellFault("troupe 1;troupe 1;", 5, 9);
        count(10, 5);
        count(4, 11);
    }

    private static void toldRefused() {
        start("Promise 3: IllegalArgumentException: the tape has not so many, n below 0 (nothing changes)");
        tell(LIVELY);
        makeLively();
        feedText("x");
        idle("told(21)", BAD, () -> x.told(21));
        idle("told(-1)", BAD, () -> x.told(-1));
        idle("told(MAX)", BAD, () -> x.told(Integer.MAX_VALUE));
        idle("told(MIN)", BAD, () -> x.told(Integer.MIN_VALUE));
        count(9, 20);
        count(10, 1);
        restore(true);
        feedText(" ".repeat(20));
        due("told(40), the tape has just so many", 1, () -> x.told(40));
        fault(0);
    }

    private static void places() {
        start("Promise 4: The place of the latest told()'s FAULT; NONE without");
        fault(NONE);
        tellFault("x", 1, 0);
        fault(0);
        tellFault(TOWN + "y", 1, 13);
        due("told(1)", BAD, () -> x.told(1));
        fault(13);
        feedText("x");
        fault(13);
        due("told(0)", 0, () -> x.told(0));
        fault(NONE);
        tellFault(" ".repeat(699) + "x", 1, 699);
        tellFault(" ".repeat(696) + "town", 1, 700);
    }
}
