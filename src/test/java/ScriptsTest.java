/** Promises 1 to 6: a new object, the text buffer, scripts and their errors. */
public final class ScriptsTest {
    public static void main(String[] args) {
        newObject();
        appendText();
        truncateText();
        commands();
        scriptsThatStop();
        scriptsAreChanges();
        notAllowed();
        outOfRange();
        tooManyCommands();
        tokens();
        endOfTheText();
        latestError();
        Due.end();
    }

    private static void newObject() {
        TableMove move = new TableMove();
        int[] counts = {0, 0, 0, 0, 0, 0, 0, 0, 0, 0, 0, 0, 1, 1, 0};
        for (int what = 0; what < counts.length; what++) {
            Due.answer("new: count(" + what + ")", move.count(what), counts[what]);
        }
        for (int key = 0; key < 60; key++) {
            Due.answer("new: stored(0, key)", move.stored(0, key), TableMove.NONE);
            Due.answer("new: stored(1, key)", move.stored(1, key), TableMove.NONE);
            Due.answer("new: written(key)", move.written(key), 0);
        }
        for (int what = 0; what < 10; what++) {
            Due.answer("new: account(" + what + ")", move.account(what), 0);
        }
        Due.answer("new: output(0)", move.output(0), TableMove.NONE);
        Due.answer("new: undo()", move.undo(), TableMove.NONE);
        Due.answer("new: changed(0)", move.changed(0), TableMove.NONE);
        Due.answer("new: changed(1)", move.changed(1), TableMove.NONE);
        Due.answer("new: truncateText(0)", move.truncateText(0), 0);
        Due.argument("new: truncateText(1)", () -> move.truncateText(1));
        Due.state("new: restore(0)", () -> move.restore(0));
        Due.answer("NONE", TableMove.NONE, -1);
        Due.answer("DOWN", TableMove.DOWN, -2);
        Due.answer("BROKEN", TableMove.BROKEN, -3);
    }

    private static void appendText() {
        TableMove move = new TableMove();
        Due.answer("appendText(\"stop\")", move.appendText(0x73746f70), 4);
        Due.answer("appendText(\";   \")", move.appendText(0x3b202020), 8);
        Due.answer("bytes are in order", move.runScript(), 0);
        Due.answer("bytes are in order", move.errorCode(), 0);
        for (int length = 4; length <= 600; length += 4) {
            Due.answer("appendText", move.appendText(0x20202020), length);
        }
        Due.state("appendText at 600", () -> move.appendText(0));
        Due.answer("truncateText(597)", move.truncateText(597), 597);
        Due.state("appendText at 597", () -> move.appendText(0));
        Due.answer("truncateText(596)", move.truncateText(596), 596);
        Due.answer("appendText at 596", move.appendText(0x20202020), 600);
        Due.answer("600 spaces", move.runScript(), 0);
        Due.answer("appendText after runScript()", move.appendText(-1), 4);
        Due.answer("bytes over 127", move.runScript(), TableMove.NONE);
        Due.answer("bytes over 127", move.errorPosition(), 0);
    }

    private static void truncateText() {
        TableMove move = new TableMove();
        Moves.type(move, "begin;stop;");
        Due.argument("truncateText(-1)", () -> move.truncateText(-1));
        Due.argument("truncateText(12)", () -> move.truncateText(12));
        Due.argument("truncateText(MIN)", () -> move.truncateText(Integer.MIN_VALUE));
        Due.argument("truncateText(MAX)", () -> move.truncateText(Integer.MAX_VALUE));
        Due.answer("truncateText(11)", move.truncateText(11), 11);
        Due.answer("truncateText(6)", move.truncateText(6), 6);
        Due.answer("begin;", move.runScript(), 1);
        Due.answer("begin;", move.count(0), 1);
        Due.argument("the text is empty then", () -> move.truncateText(1));
    }

    private static void commands() {
        TableMove move = new TableMove();
        Due.answer("empty text", move.runScript(), 0);
        Due.answer("empty text", move.errorCode(), 0);
        Due.answer("put", Moves.run(move, "put 0 0; put 59 999; put 7 007;put 8 1;"), 4);
        Due.answer("put", move.stored(0, 59), 999);
        Due.answer("put", move.stored(0, 7), 7);
        Due.answer("remove", Moves.run(move, "remove 8;"), 1);
        Due.answer("remove", move.stored(0, 8), TableMove.NONE);
        Due.answer("begin copy", Moves.run(move, "begin; copy 15;"), 2);
        Due.answer("copy", move.count(5), 15);
        move.setUp(1, false);
        move.put(3, 3);
        move.put(4, 4);
        move.setUp(1, true);
        Due.answer("repair", Moves.run(move, "repair 1;"), 1);
        Due.text("repair", Moves.queue(move), "4");
        Due.answer("repair", Moves.run(move, "repair 15;"), 1);
        StringBuilder checks = new StringBuilder();
        for (int chunk = 0; chunk < 15; chunk++) {
            checks.append("check ").append(chunk).append(";\n");
        }
        Due.answer("check", Moves.run(move, checks.toString()), 15);
        Due.answer("check", move.count(6), 15);
        Due.answer("switch", Moves.run(move, "switch 0;switch 7;back 7;switch 1;switch 2;switch 3;switch 4;"), 7);
        Due.answer("switch", move.troubledReaders(), 0);
        Due.answer("switch", move.count(8), 5);
        Due.answer("lead", Moves.run(move, "switch 5;switch 6;switch 7;lead;put 3 9;"), 5);
        Due.answer("return", Moves.run(move, "return;"), 1);
        Due.answer("return stays", move.stored(0, 3), 9);
        Due.answer("return unchecks", move.count(6), 0);
        Due.answer("return and lead", Moves.run(move, checks + "lead;"), 16);
        Due.answer("return without", Moves.run(move, "put 3 10; return without;"), 2);
        Due.answer("return without", move.stored(0, 3), 9);
        Due.answer("finish", Moves.run(move, checks + "lead;finish;"), 17);
        Due.answer("finish", move.count(0), 3);
        TableMove other = new TableMove();
        Due.answer("stop", Moves.run(other, "begin;stop;begin;stop;"), 4);
        Due.answer("stop", other.count(0), 0);
    }

    private static void scriptsThatStop() {
        TableMove move = new TableMove();
        Due.answer("stops at a refusal", Moves.run(move, "put 1 1;remove 2;put 3 3;"), 1);
        Due.answer("stops at a refusal", move.stored(0, 3), TableMove.NONE);
        Due.answer("a refusal is no error", move.errorCode(), 0);
        Due.answer("a refusal is no error", move.errorPosition(), TableMove.NONE);
        Due.answer("a refusal counts", move.account(8), 1);
        Due.answer("done counts", move.account(0), 1);
        Due.answer("refused at once", Moves.run(move, "lead;"), 0);
        Due.answer("an error does nothing", Moves.run(move, "put 1 2;put 1;"), TableMove.NONE);
        Due.answer("an error does nothing", move.stored(0, 1), 1);
        Due.answer("an error counts nothing", move.account(0), 1);
        Due.argument("an error empties the text", () -> move.truncateText(1));
    }

    private static void scriptsAreChanges() {
        TableMove move = new TableMove();
        Moves.run(move, "put 1 1;put 1 2;put 1 3;");
        Due.answer("three changes", move.count(11), 3);
        Due.answer("undo one", move.undo(), 2);
        Due.answer("undo one", move.stored(0, 1), 2);
        StringBuilder thirty = new StringBuilder();
        for (int i = 0; i < 30; i++) {
            thirty.append("put 5 ").append(i).append(';');
        }
        Due.answer("30 commands", Moves.run(move, thirty.toString()), 30);
        Due.answer("30 commands", move.count(11), 10);
        Due.answer("30 commands", move.written(5), 30);
        Due.answer("30 commands", move.stored(0, 5), 29);
    }

    private static void error(String text, int code, int position) {
        TableMove move = new TableMove();
        String call = "the script '" + text + "'";
        Due.answer(call, Moves.run(move, text), TableMove.NONE);
        Due.answer(call + ": errorCode()", move.errorCode(), code);
        Due.answer(call + ": errorPosition()", move.errorPosition(), position);
        Due.answer(call + ": changes", move.count(11), 0);
    }

    private static void notAllowed() {
        error(";", 1, 0);
        error("begin", 1, 5);
        error("begin \n ", 1, 8);
        error("put", 1, 3);
        error("put 1", 1, 5);
        error("put 1 1", 1, 7);
        error("put 1 1 1;", 1, 8);
        error("put ;", 1, 4);
        error("put 1;", 1, 5);
        error("put put 1;", 1, 4);
        error("12;", 1, 0);
        error("puts 1 1;", 1, 0);
        error("pu 1 1;", 1, 0);
        error("Put 1 1;", 1, 0);
        error("putX 1 1;", 1, 3);
        error("putz 1 1;", 1, 0);
        error("put`1 1;", 1, 3);
        error("put{1 1;", 1, 3);
        error("put 1/1;", 1, 5);
        error("put 1:1;", 1, 5);
        error("begin;;", 1, 6);
        error("begin 1;", 1, 6);
        error("begin without;", 1, 6);
        error("return with;", 1, 7);
        error("return without", 1, 14);
        error("return without without;", 1, 15);
        error("return 1;", 1, 7);
        error("without;", 1, 0);
        error("switchover 1;", 1, 0);
        error("copy -1;", 1, 5);
        error("begin\t;", 1, 5);
        error("\u0000", 1, 0);
        error("begin;\u00ff", 1, 6);
        error("begin;  lead; x", 1, 14);
    }

    private static void outOfRange() {
        error("put 60 1;", 2, 4);
        error("put 1 1000;", 2, 6);
        error("put 60", 2, 4);
        error("put 1 1000", 2, 6);
        error("remove 60;", 2, 7);
        error("copy 0;", 2, 5);
        error("copy 16;", 2, 5);
        error("repair 0;", 2, 7);
        error("repair 16;", 2, 7);
        error("check 15;", 2, 6);
        error("switch 8;", 2, 7);
        error("back 8;", 2, 5);
        error("put 4294967297 1;", 2, 4);
        error("put 18446744073709551617 1;", 2, 4);
        error("put 1 99999999999999999999999999999999999999999999;", 2, 6);
        error("copy 00000000000000000000000000000000;", 2, 5);
        error("copy 5; put 99 foo;", 2, 12);
        error("begin 99999;", 1, 6);
    }

    private static void tooManyCommands() {
        StringBuilder thirty = new StringBuilder();
        for (int i = 0; i < 30; i++) {
            thirty.append("put 1 ").append(i).append(';');
        }
        int length = thirty.length();
        TableMove move = new TableMove();
        Due.answer("30 commands and spaces", Moves.run(move, thirty + " \n "), 30);
        error(thirty + "put 1 1;", 3, length);
        error(thirty + " lead", 3, length + 1);
        error(thirty + "put 99 1;", 3, length);
        error(thirty + ";", 1, length);
        error(thirty + "foo;", 1, length);
        error(thirty + "7;", 1, length);
        error(thirty + "?", 1, length);
    }

    private static void tokens() {
        TableMove move = new TableMove();
        Due.answer("no spaces between", Moves.run(move, "put1 2;put3\n4;"), 2);
        Due.answer("no spaces between", move.stored(0, 1), 2);
        Due.answer("spaces around", Moves.run(move, "  \n put \n 5   6  ; \n"), 1);
        Due.answer("spaces around", move.stored(0, 5), 6);
        Due.answer("leading zeros", Moves.run(move, "put 000000000000000000000000000009 0000000000000000999;"), 1);
        Due.answer("leading zeros", move.stored(0, 9), 999);
        Due.answer("counts", Moves.run(move, "begin;copy 1;copy 014;"), 3);
        Due.answer("counts", move.count(5), 15);
    }

    private static void endOfTheText() {
        TableMove move = new TableMove();
        Moves.type(move, "put 1 12;");
        move.truncateText(7);
        Due.answer("a text that was cut in a number", move.runScript(), TableMove.NONE);
        Due.answer("a text that was cut in a number", move.errorPosition(), 7);
        String blanks = " ".repeat(590);
        error(blanks + "put 1 1000", 2, 596);
        error(blanks + "     begin", 1, 600);
        error(blanks + "    put 12", 1, 600);
        error(" ".repeat(600 - 1) + "9", 1, 599);
        error("put 1 " + "9".repeat(594), 2, 6);
        Due.answer("a command at the end", Moves.run(move, blanks + "put 5 17 ;"), 1);
        Due.answer("a number of 594 digits", Moves.run(move, "put 1" + "0".repeat(593) + "7;"), TableMove.NONE);
        Due.answer("a number of 594 digits", move.errorPosition(), 4);
        Due.answer("a number of 590 digits", Moves.run(move, "put 1 " + "0".repeat(590) + "7 ;"), 1);
        Due.answer("a number of 590 digits", move.stored(0, 1), 7);
    }

    private static void latestError() {
        TableMove move = new TableMove();
        Due.answer("errorCode() at first", move.errorCode(), 0);
        Due.answer("errorPosition() at first", move.errorPosition(), TableMove.NONE);
        Moves.run(move, "put 1 1000;");
        Due.answer("errorCode()", move.errorCode(), 2);
        Due.answer("errorPosition()", move.errorPosition(), 6);
        move.put(1, 1);
        move.undo();
        Due.answer("errorCode() after undo()", move.errorCode(), 2);
        Due.answer("errorPosition() after undo()", move.errorPosition(), 6);
        Moves.run(move, "put 1 1;");
        Due.answer("errorCode() without an error", move.errorCode(), 0);
        Due.answer("errorPosition() without an error", move.errorPosition(), TableMove.NONE);
    }
}
