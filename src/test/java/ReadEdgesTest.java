/** The edges of promise 7: which texts tell a valley, where the fault of the others is. */
public final class ReadEdgesTest extends Edges {
    private static final String TWO = "valley;one 0;one 1;";

    private ReadEdgesTest() {
    }

    public static void main(String[] args) {
        runAll(ReadEdgesTest.class);
    }

    private static BellForgiven read(String text, int items) {
        BellForgiven x = new BellForgiven();
        write(x, text);
        due(x.count(10), text.length());
        due(x.read(), items);
        statuses(x, 0, 0, 0);
        return x;
    }

    /** The fault is there, and all stays, STATUS too. */
    private static void fault(String text, int place) {
        read(text, -10 - place);
        BellForgiven x = told(text);
        BellForgiven twin = told(text);
        due(x.read(), -10 - place);
        same(statuses(x), statuses(twin));
        same(all(x), all(twin));
    }

    private static void faultBehind(String good, String rest) {
        fault(good + rest, good.length());
    }

    private static String items(int n, String item) {
        return item.repeat(n);
    }

    // ---- how many items

    static void promise07_valleyAloneIsOneItem() {
        BellForgiven x = read("valley;", 1);
        counts(x, 0, 0, 0, 0, 0, 0, 0, 0, 0, 0, 7);
    }

    static void promise07_eachItemCounts() {
        read("valley;one 0;", 2);
        read(TWO, 3);
        read(TWO + "wrong 0 0 1 5;", 4);
        read(TWO + "wrong 0 0 1 5;ring 0;", 5);
        read(TWO + "wrong 0 0 1 5;ring 0;days 1;", 6);
        read("valley;days 1;", 2);
    }

    static void promise07_asManyItemsAs150BytesHold() {
        String text = "valley;" + items(23, "days1;");
        due(text.length(), 145);
        BellForgiven x = read(text, 24);
        due(x.count(4), 23);
    }

    static void promise07_the150thByteCounts() {
        String text = "valley;" + items(20, "days 1;") + "  ";
        due(text.length(), 149);
        read(text + " ", 21);
        fault(text + "x", 149);
        String end = "valley;one 0;" + items(19, "days 1;") + "one ";
        due(end.length(), 150);
        fault(end, 150);
        read("valley;" + items(19, "days 1;") + "days   99;", 21);
    }

    static void promise07_whateverThe150thByteIs() {
        String most = "valley;" + items(23, "days1;");
        fault(most + "days1", 150);
        fault(most + "days ", 150);
        fault(most + "days0", 149);
        fault(most + "dayss", 145);
        fault(most + " days", 150);
        fault(most + " dayz", 146);
        read(most + "     ", 24);
        fault(most + "    ;", 149);
        fault(most + "    9", 149);
    }

    static void promise07_nothingIsReadBehindTheTextsEnd() {
        BellForgiven x = new BellForgiven();
        for (String cut : new String[] {"valley;days 9", "valley;days", "valley;one ", "valley;", "val"}) {
            write(x, "valley;days 99;days 9;   ");
            write(x, cut);
            int fault = cut.equals("val") ? 0 : cut.length();
            due(x.read(), cut.endsWith(";") ? 1 : -10 - fault);
        }
        write(x, "valley;days 9       ");
        write(x, "valley;days ");
        due(x.read(), -22);
        write(x, "valley;dayss");
        write(x, "valley;days");
        due(x.read(), -21);
    }

    // ---- blanks

    static void promise07_blanksAheadOfTheFirst() {
        read(" valley;", 1);
        read(" ".repeat(143) + "valley;", 1);
    }

    static void promise07_blanksBehindTheLast() {
        read("valley; ", 1);
        read("valley;" + " ".repeat(143), 1);
    }

    static void promise07_blanksBetweenAllTokens() {
        BellForgiven x = read("  valley  ;  one   0 ; one 1 ;wrong   5  0   1  9   ;  days  2  ; ", 5);
        counts(x, 2, 1, 0, 1, 2);
        due(x.about(0, 3), 9);
    }

    static void promise07_noBlanksWhereNoneAreNeeded() {
        BellForgiven x = read("valley;one0;one1;wrong5 0 1 5;days2;one5;ring0;days3;", 8);
        counts(x, 3, 1, 1, 0, 5);
    }

    static void promise07_blanksAreNeededBetweenTwoWords() {
        fault("valleyone 0;", 0);
        fault("valley;oneone 0;", 7);
    }

    static void promise07_blanksAreNeededBetweenTwoNumbers() {
        faultBehind(TWO + "wrong 0 0 ", "14;");
        faultBehind(TWO + "wrong ", "001 4;");
        faultBehind(TWO + "wrong 0 01 ", "4;");
    }

    static void promise07_aBlankWithinAWordEndsIt() {
        fault("val ley;", 0);
        fault("valley;o ne 0;", 7);
    }

    static void promise07_aBlankWithinANumberMakesTwo() {
        faultBehind("valley;days 1 ", "2;");
    }

    static void promise07_onlyByte32IsABlank() {
        for (int c : new int[] {0, 9, 10, 11, 12, 13, 31, 33, 95, 127}) {
            fault((char) c + "valley;", 0);
            fault("valley" + (char) c + ";", 6);
            fault("valley;" + (char) c, 7);
            fault("valley;one" + (char) c + "0;", 10);
            fault("valley;one 0" + (char) c + ";", 12);
        }
    }

    // ---- words

    static void promise07_aWordThatIsNoneIsAFaultAtItsFirstByte() {
        fault("bell;", 0);
        fault("  bell;", 2);
        fault("valley;bell;", 7);
        fault("valley; bell;", 8);
        fault("valley;a", 7);
        fault("valley;z 1;", 7);
    }

    static void promise07_aWordCutShortIsNone() {
        fault("valle;", 0);
        fault("v;", 0);
        fault("valley;on 0;", 7);
        fault(TWO + "wron 0 0 1 5;", 19);
        fault(TWO + "wrong 0 0 1 5;rin 0;", 33);
        fault("valley;day 1;", 7);
    }

    static void promise07_aWordCutShortByTheEndIsNone() {
        fault("valle", 0);
        fault("v", 0);
        fault("valley;d", 7);
        fault("valley;wron", 7);
    }

    static void promise07_aWordThatGoesOnIsNone() {
        fault("valleys;", 0);
        fault("valley;ones 0;", 7);
        fault(TWO + "wrongs 0 0 1 5;", 19);
        fault(TWO + "wrong 0 0 1 5;rings 0;", 33);
        fault("valley;dayss 1;", 7);
    }

    static void promise07_aWordWithOneLetterUnlikeIsNone() {
        String good = TWO + "wrong 0 0 1 5;";
        for (String word : new String[] {"valley", "one", "wrong", "ring", "days"}) {
            for (int n = 0; n < word.length(); n++) {
                for (char c : new char[] {'a', 'q', 'z'}) {
                    String other = word.substring(0, n) + c + word.substring(n + 1);
                    if (!other.equals(word)) {
                        read(good + other + " 1;", -10 - good.length());
                        read(other + ";", -10);
                    }
                }
            }
        }
    }

    static void promise07_capitalsAreNoLetters() {
        fault("Valley;", 0);
        fault("valleY;", 0);
        fault("VALLEY;", 0);
        fault("valley;One 0;", 7);
        fault("valley;onE 0;", 7);
    }

    static void promise07_theKindsHaveNoWords() {
        faultBehind("valley;one ", "plain;");
        faultBehind("valley;one ", "old;");
    }

    static void promise07_valleyAgain() {
        faultBehind("valley;", "valley;");
        faultBehind(TWO, "valley;");
        faultBehind("valley; ", "valley");
        faultBehind("valley ", "valley;");
    }

    static void promise07_anythingAheadOfValley() {
        fault("one 0;valley;", 0);
        fault("days 1;valley;", 0);
        fault("wrong 0 0 1 1;valley;", 0);
        fault("ring 0;valley;", 0);
        fault(";valley;", 0);
        fault("0 valley;", 0);
        fault("  7;", 2);
        fault(" one 0;", 1);
    }

    static void promise07_aWordWhereANumberIsDue() {
        faultBehind("valley;one ", "one 0;");
        faultBehind(TWO + "wrong 0 ", "wrong;");
        faultBehind("valley;days ", "days;");
        faultBehind("valley;one ", "x;");
    }

    static void promise07_aNumberWhereAWordIsDue() {
        faultBehind("valley;", "0;");
        faultBehind("valley;one 0; ", "1;");
    }

    static void promise07_aNumberTooMany() {
        faultBehind("valley ", "0;");
        faultBehind("valley;one 0 ", "0;");
        faultBehind(TWO + "wrong 0 0 1 5 ", "1;");
        faultBehind(TWO + "wrong 0 0 1 5;ring 0 ", "0;");
        faultBehind("valley;days 1 ", "1;");
    }

    static void promise07_aNumberTooFew() {
        faultBehind("valley;one", ";");
        faultBehind(TWO + "wrong", ";");
        faultBehind(TWO + "wrong 0", ";");
        faultBehind(TWO + "wrong 0 0", ";");
        faultBehind(TWO + "wrong 0 0 1", ";");
        faultBehind(TWO + "wrong 0 0 1 5;ring ", ";");
        faultBehind("valley;days", ";");
    }

    static void promise07_anItemEndedTwice() {
        faultBehind("valley;", ";");
        faultBehind("valley; ", ";");
        faultBehind("valley;one 0;", ";");
    }

    static void promise07_anItemNotEnded() {
        faultBehind("valley ", "one 0;");
        faultBehind("valley;one 0 ", "one 0;");
        faultBehind("valley;one 0", "one 0;");
        faultBehind("valley;days 1 ", "days 1;");
    }

    static void promise07_aByteThatBeginsNone() {
        for (int c = 0; c < 128; c++) {
            boolean begins = c == ' ' || c == ';' || c >= '0' && c <= '9' || c >= 'a' && c <= 'z';
            if (!begins) {
                read((char) c + "valley;", -10);
                read("valley" + (char) c + ";", -16);
                read("valley;" + (char) c, -17);
                read("valley;one " + (char) c + "0;", -21);
                read("valley;one 0" + (char) c + ";", -22);
            }
        }
    }

    static void promise07_bytesBesideTheLettersAndFigures() {
        fault("valley;`", 7);
        fault("valley;{", 7);
        fault("valley;/", 7);
        fault("valley;:", 7);
        fault("valley;one -1;", 11);
        fault("valley;one +1;", 11);
        fault("valley;one 1.;", 12);
    }

    static void promise07_eachLetterBeginsAWordEachFigureANumber() {
        for (char c = 'a'; c <= 'z'; c++) {
            read("valley" + c + ";", -10);
        }
        for (char c = '0'; c <= '9'; c++) {
            read("valley" + c + ";", -16);
            read("valley;one 1" + c + ";", -21);
        }
    }

    // ---- numbers

    static void promise07_oneOrTwoFiguresAreANumber() {
        due(read("valley;days 7;", 2).count(4), 7);
        due(read("valley;days 07;", 2).count(4), 7);
        due(read("valley;days 70;", 2).count(4), 70);
        due(read("valley;one 05;", 2).of(0, 0), OLD);
        due(read("valley;one 00;", 2).of(0, 0), PLAIN);
        BellForgiven x = read("valley;one 00;one 01;wrong 05 01 00 09;", 4);
        due(x.about(0, 0), WORD);
        due(x.about(0, 1), 1);
        due(x.about(0, 2), 0);
        due(x.about(0, 3), 9);
        due(read(TWO + "wrong 0 0 1 5;ring 00;", 5).about(0, 5), 1);
    }

    static void promise07_threeFiguresOrMoreAreAFaultAtTheFirst() {
        faultBehind("valley;days ", "001;");
        faultBehind("valley;days ", "100;");
        faultBehind("valley;days ", "0001;");
        faultBehind("valley;one ", "000;");
        faultBehind("valley;one   ", "0000000000000000000000000;");
        faultBehind("valley;days ", "4294967297;");
        faultBehind("valley;days ", "18446744073709551617;");
        faultBehind(TWO + "wrong ", "000 0 1 5;");
        faultBehind(TWO + "wrong 0 ", "000 1 5;");
        faultBehind(TWO + "wrong 0 0 ", "001 5;");
        faultBehind(TWO + "wrong 0 0 1 ", "005;");
        faultBehind(TWO + "wrong 0 0 1 5;ring ", "000;");
        faultBehind("valley", "000;");
    }

    static void promise07_threeFiguresAreOneFaultNotACutNumber() {
        faultBehind("valley;days ", "999");
        faultBehind("valley;days ", "123");
    }

    static void promise07_limitsOfAnotherOnesKind() {
        read("valley;one 0;", 2);
        read("valley;one 5;", 2);
        faultBehind("valley;one ", "6;");
        faultBehind("valley;one ", "06;");
        faultBehind("valley;one ", "9;");
        faultBehind("valley;one ", "99;");
        faultBehind("valley;one ", "10;");
    }

    static void promise07_limitsOfAWrongsKind() {
        read(TWO + "wrong 0 0 1 5;", 4);
        read(TWO + "wrong 5 0 1 5;", 4);
        faultBehind(TWO + "wrong ", "6 0 1 5;");
        faultBehind(TWO + "wrong ", "60 0 1 5;");
    }

    static void promise07_limitsOfByWhom() {
        read(TWO + "wrong 0 0 1 5;", 4);
        read(TWO + "wrong 0 1 0 5;", 4);
        faultBehind(TWO + "wrong 0 ", "2 0 5;");
        read(TWO + "one 2;wrong 0 2 0 5;", 5);
        faultBehind("valley;wrong 0 ", "0 1 5;");
        String six = "valley;" + items(6, "one 0;");
        read(six + "wrong 0 5 0 5;", 8);
        faultBehind(six + "wrong 0 ", "6 0 5;");
    }

    static void promise07_limitsOfToWhom() {
        read(TWO + "wrong 0 1 0 5;", 4);
        read(TWO + "wrong 0 0 1 5;", 4);
        faultBehind(TWO + "wrong 0 0 ", "2 5;");
        read(TWO + "one 2;wrong 0 0 2 5;", 5);
        faultBehind("valley;one 0;wrong 0 0 ", "1 5;");
    }

    static void promise07_whoIsNotThereYetIsAFault() {
        faultBehind("valley;one 0;wrong 0 0 ", "1 5;one 0;");
        faultBehind("valley;one 0;wrong 0 ", "1 0 5;one 0;");
    }

    static void promise07_bAlikeAIsAFaultAtB() {
        faultBehind(TWO + "wrong 0 0 ", "0 5;");
        faultBehind(TWO + "wrong 0 1 ", "1 5;");
        faultBehind(TWO + "wrong 0 1 ", "01 5;");
    }

    static void promise07_limitsOfTheGravity() {
        due(read(TWO + "wrong 0 0 1 1;", 4).about(0, 3), 1);
        due(read(TWO + "wrong 0 0 1 9;", 4).about(0, 3), 9);
        faultBehind(TWO + "wrong 0 0 1 ", "0;");
        faultBehind(TWO + "wrong 0 0 1 ", "00;");
        faultBehind(TWO + "wrong 0 0 1 ", "10;");
        faultBehind(TWO + "wrong 0 0 1 ", "99;");
    }

    static void promise07_limitsOfTheDays() {
        due(read("valley;days 1;", 2).count(4), 1);
        due(read("valley;days 60;", 2).count(4), 60);
        due(read("valley;days 61;", 2).count(4), 61);
        due(read("valley;days 99;", 2).count(4), 99);
        faultBehind("valley;days ", "0;");
        faultBehind("valley;days ", "00;");
        faultBehind("valley;days ", "100;");
    }

    static void promise07_aRingOfAWrongThatIsNotThereYet() {
        faultBehind(TWO + "ring ", "0;");
        faultBehind(TWO + "ring ", "0;wrong 0 0 1 5;");
        faultBehind(TWO + "wrong 0 0 1 5;ring ", "1;");
        String eight = TWO + items(8, "wrong0 0 1 1;");
        read(eight + "ring 7;", 12);
        faultBehind(eight + "ring ", "8;");
    }

    static void promise07_aRingOfAWrongThatWasLetOff() {
        read(TWO + "wrong 0 0 1 5;ring 0;", 5);
        faultBehind(TWO + "wrong 0 0 1 5;ring 0;ring ", "0;");
        faultBehind(TWO + "wrong 0 0 1 5;ring 0;days 9;ring ", "0;");
    }

    static void promise07_aRingOfAWrongThatCanNotBeLetOff() {
        read(TWO + "wrong 0 0 1 5;ring 0;", 5);
        faultBehind(TWO + "wrong 0 0 1 6;ring ", "0;");
        read(TWO + "wrong 0 1 0 2;ring 0;", 5);
        faultBehind(TWO + "wrong 0 1 0 3;ring ", "0;");
    }

    static void promise07_aRingIsBehindTheRingsAheadOfIt() {
        faultBehind(TWO + "wrong 0 1 0 3;wrong 0 0 1 5;ring ", "0;ring 1;");
        BellForgiven x = read(TWO + "wrong 0 1 0 3;wrong 0 0 1 5;ring 1;ring 0;", 7);
        due(x.of(0, 1), 1);
        due(x.of(1, 1), 1);
        due(x.count(2), 2);
        faultBehind(TWO + "wrong 0 1 0 4;wrong 0 0 1 5;ring 1;ring ", "0;");
    }

    static void promise07_aRingIsAsIfTheOthersHadNotBeen() {
        faultBehind(TWO + "wrong 0 0 1 5;wrong 0 1 0 3;ring ", "1;");
        faultBehind(TWO + "wrong 0 1 0 1;wrong 0 0 1 6;ring ", "1;");
    }

    static void promise07_aRingIsOnTheDayWhereItStands() {
        faultBehind(TWO + "wrong 1 1 0 3;days 2;ring ", "0;");
        read(TWO + "wrong 1 1 0 3;days 3;ring 0;", 6);
        faultBehind(TWO + "wrong 1 1 0 3;ring ", "0;days 3;");
        read("valley;one 3;one 0;wrong 0 1 0 9;ring 0;", 5);
        faultBehind("valley;one 3;one 0;wrong 0 1 0 9;days 29;ring ", "0;");
        read("valley;one 3;one 0;wrong 0 1 0 9;days 30;ring 0;", 6);
    }

    static void promise07_aSixthOneStandsASeventhIsAFaultAtItsWord() {
        String six = "valley;" + items(6, "one 0;");
        due(read(six, 7).count(0), 6);
        faultBehind(six, "one 0;");
        faultBehind(six + " ", "one 9;");
        faultBehind(six, "one");
        faultBehind(six, "one;");
    }

    static void promise07_anEighthWrongStandsANinthIsAFaultAtItsWord() {
        String eight = TWO + items(8, "wrong0 0 1 5;");
        due(read(eight, 11).count(1), 8);
        faultBehind(eight, "wrong0 0 1 5;");
        faultBehind(eight + " ", "wrong 9");
        faultBehind(eight, "wrong");
    }

    static void promise07_wrongsThatWereLetOffCountToo() {
        String eight = TWO + items(7, "wrong0 0 1 1;") + "ring0;wrong0 0 1 1;";
        read(eight, 12);
        faultBehind(eight, "wrong");
    }

    // ---- a text that ends too early

    static void promise07_anEmptyTextEndsTooEarly() {
        fault("", 0);
    }

    static void promise07_blanksAloneEndTooEarly() {
        fault(" ", 1);
        fault(" ".repeat(150), 150);
    }

    static void promise07_anItemThatIsNotEndedEndsTooEarly() {
        String text = TWO + "wrong 0 0 1 5;ring 0;days 4;";
        for (int n = 0; n < text.length(); n++) {
            String cut = text.substring(0, n);
            boolean midWord = n > 0 && Character.isLetter(cut.charAt(n - 1))
                    && Character.isLetter(text.charAt(n));
            if (!midWord && !cut.endsWith(";")) {
                fault(cut, n);
            }
        }
    }

    static void promise07_theLengthCountsBlanksAtTheEnd() {
        fault("valley ", 7);
        fault("valley;one  ", 12);
        fault("valley;one 3  ", 14);
        fault(TWO + "wrong 0 0 1   ", 33);
    }

    static void promise07_endedItemsAreEnough() {
        String text = TWO + "wrong 0 0 1 5;ring 0;days 4;";
        int items = 0;
        for (int n = 0; n < text.length(); n++) {
            if (text.charAt(n) == ';') {
                items++;
                read(text.substring(0, n + 1), items);
            }
        }
    }

    static void promise07_theFirstFaultIsTold() {
        fault("valley;one 6;one 7;", 11);
        fault("valley;bell;valley;", 7);
        fault(TWO + "wrong 6 6 6 0;", 25);
        fault(TWO + "wrong 0 6 6 0;", 27);
        fault(TWO + "wrong 0 0 0 0;", 29);
    }

    // ---- days in a text

    static void promise07_daysGoByWhereTheyStand() {
        BellForgiven x = read(TWO + "wrong 0 0 1 5;days 3;wrong 0 0 1 5;days 4;wrong 0 0 1 5;", 8);
        due(x.about(0, 4), 7);
        due(x.about(1, 4), 4);
        due(x.about(2, 4), 0);
        due(x.count(4), 7);
    }

    static void promise07_agesAre99AtMost() {
        due(read(TWO + "wrong 0 0 1 9;days 99;", 5).about(0, 4), 99);
        due(read(TWO + "wrong 0 0 1 9;days 99;days 1;", 6).about(0, 4), 99);
        due(read(TWO + "wrong 0 0 1 9;days 60;days 60;", 6).about(0, 4), 99);
    }

    static void promise07_aWrongThatWasLetOffGrowsNoOlder() {
        BellForgiven x = read(TWO + "wrong 0 0 1 5;wrong 0 0 1 9;days 2;ring 0;days 9;", 8);
        due(x.about(0, 4), 2);
        due(x.about(1, 4), 11);
    }

    static void promise07_the999thDayIsTheLast() {
        String days = "valley;one0;one0;" + items(10, "days 99;");
        due(read(days + "days 9;", 14).count(4), 999);
        due(read(days + "days 8;", 14).count(4), 998);
        due(read(days + "days 99;", 14).count(4), 999);
        BellForgiven x = read(days + "wrong0 0 1 9;days 99;", 15);
        due(x.count(4), 999);
        due(x.about(0, 4), 9);
        x = read(days + "days 9;wrong0 0 1 9;days 99;", 16);
        due(x.about(0, 4), 0);
    }

    static void promise07_manyDaysAreStillAsManyItems() {
        due(read("valley;" + items(17, "days 99;"), 18).count(4), 999);
    }

    // ---- what a read takes the place of

    static void promise07_takesThePlaceOfAllThatIsThere() {
        BellForgiven x = told("valley;one 2;one 5;wrong 3 0 1 2;");
        due(x.read(), 4);
        counts(x, 2, 1, 0, 1, 0, 0, 0, 0, 0, 0, 33);
        due(x.of(0, 0), HARD);
        due(x.of(0, 1), 0);
        due(x.of(1, 0), OLD);
        due(x.of(1, 1), 0);
        due(x.of(2, 0), BAD);
        int[] wrong = {LATE, 0, 1, 2, 0, 0, 2};
        for (int what = 0; what < 7; what++) {
            due(x.about(0, what), wrong[what]);
        }
        due(x.about(1, 0), BAD);
    }

    static void promise07_takesThePlaceByAsLittleAsValley() {
        BellForgiven x = told("valley;");
        due(x.read(), 1);
        BellForgiven twin = told("valley;");
        twin.valley();
        same(all(x), all(twin));
    }

    static void promise07_whatWasToldIsAsIfItHadBeenCalled() {
        BellForgiven x = read("valley;one 0;one 1;wrong 0 0 1 5;wrong 2 1 0 3;days 9;ring 0;days 3;", 8);
        BellForgiven twin = people(PLAIN, MILD);
        twin.wrong(PLAIN, 0, 1, 5);
        twin.wrong(OATH, 1, 0, 3);
        twin.days(9);
        twin.rings(0);
        twin.days(3);
        due(x.count(9), 0);
        for (int k = 0; k < 2; k++) {
            for (int what = 0; what < 7; what++) {
                due(x.about(k, what), twin.about(k, what));
            }
            due(x.when(k), twin.when(k));
        }
        for (int i = 0; i < 2; i++) {
            for (int what = 0; what < 4; what++) {
                due(x.of(i, what), twin.of(i, what));
            }
        }
    }

    static void promise07_noSeenOnesNoNotesNoMarksBehindIt() {
        BellForgiven x = told(TWO + "wrong 0 0 1 5;wrong 0 0 1 5;");
        due(x.read(), 5);
        due(x.grave(1, 0), 9);
        due(x.is(1), 63);
        due(x.kinds(1), 63);
        for (int n = 1; n <= 5; n++) {
            due(x.seen(0, 0, 0, 0), n);
        }
    }

    static void promise07_nothingMayBeUndoneBehindIt() {
        BellForgiven x = told(TWO + "wrong 0 0 1 5;days 9;ring 0;");
        due(x.count(9), 6);
        due(x.read(), 6);
        due(x.undo(), NO);
        x.days(1);
        due(x.undo(), 9);
        due(x.undo(), NO);
    }

    static void promise07_imagesStay() {
        BellForgiven x = told();
        BellForgiven twin = told();
        due(x.read(), 4);
        for (int i = 0; i < 2; i++) {
            due(x.from(i), 1);
            twin.from(i);
            due(x.digest(), twin.digest());
            due(x.undo(), twin.undo());
            due(x.digest(), twin.digest());
        }
    }

    static void promise07_theTextStays() {
        BellForgiven x = told("valley;one 2;");
        due(x.read(), 2);
        due(x.count(10), 13);
        x.one(PLAIN);
        due(x.read(), 2);
        due(x.count(0), 1);
        due(x.type('d'), 14);
        due(x.read(), -23);
    }

    static void promise07_theFractionStays() {
        BellForgiven x = told();
        x.read();
        fraction(x, 7, 10);
    }

    static void promise07_statusStays() {
        BellForgiven x = told();
        x.one(9);
        x.from(7);
        x.rings(0);
        x.read();
        statuses(x, 2, 1, 0);
        BellForgiven y = told("valley");
        y.one(9);
        y.rings(0);
        y.read();
        statuses(y, 1, 1, 0);
    }

    static void promise07_othersComeBehindIt() {
        BellForgiven x = read("valley;one 2;one 5;wrong 3 0 1 2;", 4);
        due(x.one(EASTER), 2);
        due(x.wrong(PLAIN, 2, 0, 1), 1);
        due(x.rings(1), 1);
        due(x.days(3), 3);
    }

    static void promise07_aReadThatFailedLeavesNothingToTheNext() {
        BellForgiven x = new BellForgiven();
        write(x, TWO + "wrong 0 0 1 5;ring 0;days 9;bell");
        due(x.read(), -10 - 47);
        write(x, "valley;one 4;");
        due(x.read(), 2);
        for (int what = 1; what < 10; what++) {
            due(x.count(what), 0);
        }
        due(x.of(0, 1), 0);
        due(x.count(0), 1);
    }
}
