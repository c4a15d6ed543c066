import java.math.BigInteger;
import java.util.ArrayList;
import java.util.List;

/**
 * Promises 2 to 6 and the part SCRIPTS of the document at their edges: every byte, every wrong token at
 * every place, numbers with many digits, texts that end too early, the 31st command, and what is done
 * and counted by a script with an error or with a refused act.
 */
public final class ScriptEdgesTest {
    private static final int NONE = TableMove.NONE;
    private static final int NOT_ALLOWED = 1;
    private static final int OUT_OF_RANGE = 2;
    private static final int TOO_MANY = 3;

    public static void main(String[] args) {
        bytesOfOneToken();
        everyByteAlone();
        everyByteBetween();
        highestByteFirst();
        tokensAtEveryPlace();
        theFirstWrongTokenCounts();
        textsThatEndTooEarly();
        numbersAtTheirEdges();
        numbersWithManyDigits();
        hugeNumbers();
        thirtyCommands();
        thirtyFirstCommand();
        longestTexts();
        errorsDoNothing();
        refusedCommands();
        everyCommandIsItsAct();
        Due.end();
    }

    private static void fine(String text, int commands) {
        TableMove move = new TableMove();
        Due.answer("'" + text + "' is done", Moves.run(move, text), commands);
        Due.answer("'" + text + "': errorCode()", move.errorCode(), 0);
        Due.answer("'" + text + "': errorPosition()", move.errorPosition(), NONE);
        Due.answer("'" + text + "': the text is empty afterwards", move.appendText(0), 4);
    }

    private static void error(String text, int code, int position) {
        TableMove move = new TableMove();
        Due.answer("'" + text + "' is done", Moves.run(move, text), NONE);
        Due.answer("'" + text + "': errorCode()", move.errorCode(), code);
        Due.answer("'" + text + "': errorPosition()", move.errorPosition(), position);
        Due.answer("'" + text + "': no act is done", move.account(0), 0);
        Due.answer("'" + text + "': the text is empty afterwards", move.appendText(0), 4);
    }

    // ---- bytes and tokens

    private static void bytesOfOneToken() {
        fine("put1 2;put 3 4;", 2);
        fine("put 1 2;put 3 4;", 2);
        fine("put\n1\n2\n;\nput\n3\n4\n;\n", 2);
        error("put 12;", NOT_ALLOWED, 6);
        error("pu t 1 2;", NOT_ALLOWED, 0);
        error("put 1 2 3;", NOT_ALLOWED, 8);
        error("putremove 1;", NOT_ALLOWED, 0);
        fine("begin;copy15;", 2);
        error("begin;copy1 5;", NOT_ALLOWED, 12);
    }

    private static void everyByteAlone() {
        for (char sign = 0; sign < 256; sign++) {
            if (sign == ' ' || sign == '\n') {
                fine("" + sign, 0);
                fine(sign + "put 1 1;" + sign, 1);
            } else {
                error("" + sign, NOT_ALLOWED, 0);
                error(" \n" + sign, NOT_ALLOWED, 2);
                error("put 1 1;" + sign, NOT_ALLOWED, 8);
            }
        }
    }

    private static void everyByteBetween() {
        for (char sign = 0; sign < 256; sign++) {
            String text = "put" + sign + "1 1;";
            if (sign == ' ' || sign == '\n' || sign >= '0' && sign <= '5') {
                fine(text, 1);
            } else if (sign >= '6' && sign <= '9') {
                error(text, OUT_OF_RANGE, 3);
            } else if (sign >= 'a' && sign <= 'z') {
                error(text, NOT_ALLOWED, 0);
            } else {
                error(text, NOT_ALLOWED, 3);
                error("put 1" + sign + " 1;", NOT_ALLOWED, 5);
                error("put 1 1;" + sign + " ;", NOT_ALLOWED, 8);
            }
        }
    }

    private static void highestByteFirst() {
        TableMove move = new TableMove();
        move.appendText('p' << 24 | 'u' << 16 | 't' << 8 | '3');
        move.appendText(' ' << 24 | '4' << 16 | ';' << 8 | ' ');
        Due.answer("the highest byte comes first", move.runScript(), 1);
        Due.answer("the highest byte comes first", move.stored(0, 3), 4);
        for (int place = 0; place < 4; place++) {
            move.appendText(0x20202020 & ~(0xff << 24 - 8 * place) | 0xff << 24 - 8 * place);
            Due.answer("a byte over 127", move.runScript(), NONE);
            Due.answer("a byte over 127", move.errorPosition(), place);
        }
    }

    /** Each place in a script, with the tokens that are right there; each other one is an error there. */
    private static void tokensAtEveryPlace() {
        place("", "begin", "");
        place("put 1 1; ", "begin", "");
        place("put ", "7");
        place("put 7 ", "7");
        place("put 7 7 ", ";");
        place("remove ", "7");
        place("remove 7 ", ";");
        place("begin ", ";");
        for (String word : List.of("copy", "repair", "check", "switch", "back")) {
            place(word + " ", "7");
            place(word + " 7 ", ";");
        }
        place("lead ", ";");
        place("return ", ";", "without");
        place("return without ", ";");
        place("stop ", ";");
        place("finish ", ";");
    }

    private static void place(String ahead, String... right) {
        for (String token : List.of("begin", "without", "with", "commands", "7", "99999", ";", "?", "")) {
            boolean number = token.equals("99999") && List.of(right).contains("7");
            if (number) {
                error(ahead + token + " ;", OUT_OF_RANGE, ahead.length());
            } else if (!List.of(right).contains(token)) {
                error(ahead + token, NOT_ALLOWED, ahead.length());
                error(ahead + token + (token.isEmpty() ? "" : " ; begin;"), NOT_ALLOWED, ahead.length());
            }
        }
    }

    private static void theFirstWrongTokenCounts() {
        error("put 60 1000;", OUT_OF_RANGE, 4);
        error("put 1 1000; put 60 1;", OUT_OF_RANGE, 6);
        error("put 1 1000 ?", OUT_OF_RANGE, 6);
        error("put 60", OUT_OF_RANGE, 4);
        error("put 60 ?", OUT_OF_RANGE, 4);
        error("put ? 60", NOT_ALLOWED, 4);
        error("put x; copy 99;", NOT_ALLOWED, 4);
        error("copy 99; put x;", OUT_OF_RANGE, 5);
        error("begin 99;", NOT_ALLOWED, 6);
        error("copy 1 99;", NOT_ALLOWED, 7);
        error("99 copy;", NOT_ALLOWED, 0);
        error("check 15 15;", OUT_OF_RANGE, 6);
    }

    // ---- texts that end too early

    /** Every beginning of a script that has every command. */
    private static void textsThatEndTooEarly() {
        String text = "put 59 999;remove 59 ; begin;\ncopy 15;repair 15;check 14;switch 7; back 7;lead;"
            + "return;return without;  stop;finish ;";
        for (int length = 0; length <= text.length(); length++) {
            String cut = text.substring(0, length);
            String last = cut.substring(cut.lastIndexOf(';') + 1);
            String word = last.replaceAll("(?s)^.*[ \n0-9]", "");
            boolean whole = List.of("put", "remove", "begin", "copy", "repair", "check", "switch", "back", "lead", "return",
                "without", "stop", "finish").contains(word);
            if (last.isBlank()) {
                noError(cut);
            } else if (word.isEmpty() || whole) {
                error(cut, NOT_ALLOWED, length);
                error(cut + " \n", NOT_ALLOWED, length + 2);
            } else {
                error(cut, NOT_ALLOWED, length - word.length());
            }
        }
    }

    /** No error, whatever the acts answer. */
    private static void noError(String text) {
        TableMove move = new TableMove();
        Due.answer("'" + text + "' has no error", Moves.run(move, text) == NONE, false);
        Due.answer("'" + text + "' has no error", move.errorCode(), 0);
        Due.answer("'" + text + "' has no error", move.errorPosition(), NONE);
    }

    // ---- numbers

    private record Place(String ahead, int least, int greatest, String behind) {
    }

    private static List<Place> numbers() {
        List<Place> places = new ArrayList<>();
        places.add(new Place("put ", 0, 59, " 7;"));
        places.add(new Place("put 7 ", 0, 999, ";"));
        places.add(new Place("remove ", 0, 59, ";"));
        places.add(new Place("copy ", 1, 15, ";"));
        places.add(new Place("repair ", 1, 15, ";"));
        places.add(new Place("check ", 0, 14, ";"));
        places.add(new Place("switch ", 0, 7, ";"));
        places.add(new Place("back ", 0, 7, ";"));
        return places;
    }

    private static void numbersAtTheirEdges() {
        for (Place place : numbers()) {
            for (int number = 0; number <= 1001; number++) {
                String text = place.ahead() + number + place.behind();
                if (number >= place.least() && number <= place.greatest()) {
                    noError(text);
                } else {
                    error(text, OUT_OF_RANGE, place.ahead().length());
                }
            }
        }
        TableMove move = new TableMove();
        Due.answer("the greatest key and value", Moves.run(move, "put 59 999; put 0 0;"), 2);
        Due.answer("the greatest key and value", move.stored(0, 59), 999);
        Due.answer("the least key and value", move.stored(0, 0), 0);
    }

    private static void numbersWithManyDigits() {
        for (Place place : numbers()) {
            int room = 600 - place.ahead().length() - place.behind().length();
            for (int digits : new int[] {3, 4, 9, 10, 11, 19, 20, 100, room - 1, room}) {
                String zeros = "0".repeat(digits);
                noError(place.ahead() + with(zeros, place.greatest()) + place.behind());
                noError(place.ahead() + with(zeros, place.least()) + place.behind());
                error(place.ahead() + with(zeros, place.greatest() + 1) + place.behind(), OUT_OF_RANGE, place.ahead().length());
                if (place.least() > 0) {
                    error(place.ahead() + zeros + place.behind(), OUT_OF_RANGE, place.ahead().length());
                }
            }
        }
        TableMove move = new TableMove();
        Due.answer("zeros ahead of a number", Moves.run(move, "put " + with("0".repeat(290), 17) + " " + with("0".repeat(300), 171)
            + ";"), 1);
        Due.answer("zeros ahead of a number", move.stored(0, 17), 171);
    }

    private static String with(String zeros, int number) {
        String digits = "" + number;
        return zeros.substring(Math.min(digits.length(), zeros.length())) + digits;
    }

    /** Numbers that come back to the range in 16, 32 or 64 bits. */
    private static void hugeNumbers() {
        for (Place place : numbers()) {
            for (int bits : new int[] {10, 16, 31, 32, 33, 63, 64, 65, 128, 1024}) {
                for (int more = -1; more <= 8; more++) {
                    BigInteger number = BigInteger.TWO.pow(bits).add(BigInteger.valueOf(more));
                    error(place.ahead() + number + place.behind(), OUT_OF_RANGE, place.ahead().length());
                }
            }
            for (int digits = 4; digits < 580; digits += 7) {
                String zeros = "0".repeat(digits - 1);
                error(place.ahead() + "1" + zeros + place.behind(), OUT_OF_RANGE, place.ahead().length());
                error(place.ahead() + "9" + zeros + place.behind(), OUT_OF_RANGE, place.ahead().length());
                error(place.ahead() + "10" + zeros.substring(1) + "1" + place.behind(), OUT_OF_RANGE, place.ahead().length());
            }
        }
    }

    // ---- how many commands

    private static void thirtyCommands() {
        for (int commands = 0; commands <= 30; commands++) {
            fine("put 1 1;".repeat(commands), commands);
            fine("put 1 1;".repeat(commands) + " \n ", commands);
        }
        TableMove move = new TableMove();
        Due.answer("30 commands", Moves.run(move, "begin;stop;".repeat(15)), 30);
        Due.answer("30 commands", move.account(0), 30);
        Due.answer("30 commands", move.count(11), 10);
        error("put 1 1;".repeat(29) + "put 1 1", NOT_ALLOWED, 29 * 8 + 7);
        error("put 1 1;".repeat(29) + "put 1 1000;", OUT_OF_RANGE, 29 * 8 + 6);
        error("put 1 1;".repeat(30) + ";", NOT_ALLOWED, 240);
    }

    private static void thirtyFirstCommand() {
        String thirty = "put 1 1;".repeat(30);
        for (String word : List.of("put", "remove", "begin", "copy", "repair", "check", "switch", "back", "lead", "return",
                "stop", "finish")) {
            error(thirty + word, TOO_MANY, 240);
            error(thirty + " \n" + word + " 1 1;", TOO_MANY, 242);
            error(thirty + word + " 1000 1000 ?", TOO_MANY, 240);
        }
        // of several codes the least: these are not allowed there, whichever command it is
        error(thirty + "without;", NOT_ALLOWED, 240);
        error(thirty + "with;", NOT_ALLOWED, 240);
        error(thirty + "1;", NOT_ALLOWED, 240);
        error(thirty + "?", NOT_ALLOWED, 240);
        error("put 1 1;".repeat(31), TOO_MANY, 240);
        error("put 1 1;".repeat(32), TOO_MANY, 240);
        error("put 1 1;".repeat(75), TOO_MANY, 240);
        error("begin;".repeat(100), TOO_MANY, 180);
        error("put 1 1000;" + "put 1 1;".repeat(40), OUT_OF_RANGE, 6);
        error("put 1;" + "put 1 1;".repeat(40), NOT_ALLOWED, 5);
    }

    private static void longestTexts() {
        String blanks = " ".repeat(592);
        fine(blanks + "put 1 1;", 1);
        fine("put 1 1;" + blanks, 1);
        error(blanks + " put 1 1", NOT_ALLOWED, 600);
        error("a".repeat(600), NOT_ALLOWED, 0);
        error("7".repeat(600), NOT_ALLOWED, 0);
        error(";".repeat(600), NOT_ALLOWED, 0);
        error(" ".repeat(599) + "?", NOT_ALLOWED, 599);
        error(" ".repeat(596) + "stop", NOT_ALLOWED, 600);
        error("put 1" + " ".repeat(595), NOT_ALLOWED, 600);
        error("put" + " ".repeat(595) + "60", OUT_OF_RANGE, 598);
        error("put" + "0".repeat(597), NOT_ALLOWED, 600);
    }

    // ---- what a script does

    private static void errorsDoNothing() {
        for (Stories.Story story : Stories.all()) {
            for (String text : List.of("put 3 3;", "put 3 3;put", "put 3 3;put 60 1;", "put 3 3;".repeat(31), "put 3 3;?")) {
                TableMove move = story.made().get();
                String accounts = Seen.accounts(move);
                boolean right = text.equals("put 3 3;");
                int due = right ? move.count(12 + move.count(14)) : NONE;
                Due.answer(story.name() + ": '" + text + "'", Moves.run(move, text), due);
                Due.answer(story.name() + ": '" + text + "' counts", !Seen.accounts(move).equals(accounts), right);
                Due.answer(story.name() + ": '" + text + "': the text is empty", move.appendText(0), 4);
            }
        }
    }

    private static void refusedCommands() {
        TableMove move = new TableMove();
        Due.answer("the first is refused", Moves.run(move, "remove 1; put 1 1;"), 0);
        Due.answer("nothing is done", move.count(3), 0);
        Due.answer("a refusal is no change", move.count(11), 0);
        Due.answer("a refusal is counted", move.account(8), 1);
        Due.answer("the text is empty", move.appendText(0), 4);
        Due.answer("the second is refused", Moves.run(move, "put 1 1; remove 2; put 1 2; remove 3;"), 1);
        Due.answer("the ones behind are not done", move.stored(0, 1), 1);
        Due.answer("the ones behind are not counted", move.account(8), 2);
        Due.answer("one change", move.count(11), 1);
        Due.answer("the 30th is refused", Moves.run(move, "put 1 1;".repeat(29) + "lead;"), 29);
        Due.answer("no error", move.errorCode(), 0);
        Due.answer("no error", move.errorPosition(), NONE);
        Due.answer("29 changes", move.count(11), 10);
        Due.answer("29 changes", move.account(0), 30);
        Due.answer("an error behind a refusal", Moves.run(move, "remove 9; put 1;"), NONE);
        Due.answer("nothing was refused", move.account(8), 2);
        Due.answer("the error is told", move.errorPosition(), 15);
        Moves.run(move, "remove 9;");
        Due.answer("the error is gone", move.errorCode(), 0);
        Due.answer("the error is gone", move.errorPosition(), NONE);
    }

    /** The same calls by a script and by methods, on two objects. */
    private static void everyCommandIsItsAct() {
        for (Stories.Story story : Stories.all()) {
            script(story, "put 8 9;", move -> move.put(8, 9));
            script(story, "remove 7;", move -> move.remove(7));
            script(story, "begin;", move -> move.begin());
            script(story, "copy 1;", move -> move.copy(1));
            script(story, "copy 15;", move -> move.copy(15));
            script(story, "repair 1;", move -> move.repair(1));
            script(story, "repair 15;", move -> move.repair(15));
            for (int chunk = 0; chunk < 15; chunk++) {
                int number = chunk;
                script(story, "check " + chunk + ";", move -> move.check(number));
            }
            for (int reader = 0; reader < 8; reader++) {
                int number = reader;
                script(story, "switch " + reader + ";", move -> move.switchOver(number));
                script(story, "back " + reader + ";", move -> move.switchBack(number));
            }
            script(story, "lead;", move -> move.lead());
            script(story, "return;", move -> move.goBack(true));
            script(story, "return without;", move -> move.goBack(false));
            script(story, "stop;", move -> move.stop());
            script(story, "finish;", move -> move.finish());
        }
    }

    private interface Act {
        int answer(TableMove move);
    }

    private static void script(Stories.Story story, String text, Act act) {
        for (int up = 0; up < 2; up++) {
            boolean sides = up == 1;
            TableMove called = story.made().get();
            TableMove run = story.made().get();
            called.setUp(0, sides || called.count(12) == 1);
            called.setUp(1, sides || called.count(13) == 1);
            run.setUp(0, sides || run.count(12) == 1);
            run.setUp(1, sides || run.count(13) == 1);
            String when = story.name() + ", sides up " + sides + ": '" + text + "'";
            Due.answer(when, Moves.run(run, text), act.answer(called) == 0 ? 1 : 0);
            Due.text(when + ": accounts", Seen.accounts(run), Seen.accounts(called));
            Due.text(when + ": events", Moves.events(run), Moves.events(called));
            Due.text(when + ": queue", Moves.queue(run), Moves.queue(called));
            for (int what = 0; what < 15; what++) {
                Due.answer(when + ": count(" + what + ")", run.count(what), called.count(what));
            }
            for (int key = 0; key < 60; key++) {
                Due.answer(when + ": stored(0, " + key + ")", run.stored(0, key), called.stored(0, key));
                Due.answer(when + ": stored(1, " + key + ")", run.stored(1, key), called.stored(1, key));
            }
        }
    }
}
