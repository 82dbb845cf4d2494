/** For each promise of the document: ordinary inputs, the edges that it names, wrong inputs. */
public final class PromiseTests extends BoardChecks {
    public static void main(String[] arguments) {
        PromiseTests tests = new PromiseTests();
        tests.newObject();
        tests.type();
        tests.clearText();
        tests.addWord();
        tests.lookUp();
        tests.setLetter();
        tests.setPremium();
        tests.setRack();
        tests.setTile();
        tests.tileAt();
        tests.onRack();
        tests.score();
        tests.crossSet();
        tests.anchors();
        tests.isAnchor();
        tests.check();
        tests.checkOrder();
        tests.connection();
        tests.play();
        tests.scoring();
        tests.plays();
        tests.playAt();
        tests.bestPlay();
        tests.playBest();
        tests.endgame();
        tests.endgameEnds();
        tests.endgameLimit();
        tests.undo();
        tests.digest();
        tests.digestOfAGame();
        tests.failedCallsChangeNothing();
        tests.examples();
        tests.checks.close("PromiseTests");
    }

    private void newObject() {
        checks.due("NONE", -1, () -> TileWordBoard.NONE);
        TileWordBoard b = new TileWordBoard();
        for (int row = 0; row < 7; row++) {
            for (int column = 0; column < 7; column++) {
                int r = row;
                int c = column;
                checks.due("new tileAt", NONE, () -> b.tileAt(r, c));
                checks.due("new crossSet", 255, () -> b.crossSet(r, c, (r + c) % 2));
            }
        }
        for (int player = 0; player < 2; player++) {
            int p = player;
            checks.due("new score", 0, () -> b.score(p));
            checks.due("new plays", 0, () -> b.plays(p));
            for (int letter = 0; letter < 8; letter++) {
                int l = letter;
                checks.due("new onRack", 0, () -> b.onRack(p, l));
            }
        }
        checks.due("new anchors", 1, () -> b.anchors());
        checks.due("new lookUp", NONE, () -> b.lookUp());
        checks.due("new clearText", 0, () -> b.clearText());
        checks.state("new undo", () -> b.undo());
        checks.due("new endgame", 0, () -> b.endgame(0));
        for (int letter = 0; letter < 8; letter++) {
            int l = letter;
            checks.due("new value", 1, () -> b.setLetter(l, 2, 0));
        }
        for (int square = 0; square < 49; square++) {
            int s = square;
            checks.due("new premium", 0, () -> b.setPremium(s / 7, s % 7, 1));
        }
        TileWordBoard other = new TileWordBoard();
        checks.due("a second object has values of its own", 1, () -> other.setLetter(0, 3, 0));
    }

    private void type() {
        TileWordBoard b = board("hgfedcb");
        for (int k = 1; k <= 7; k++) {
            int length = k;
            checks.due("type", length, () -> b.type(8 - length));
        }
        checks.due("the seven letters are the word", 0, () -> b.lookUp());
        checks.state("type in a full text", () -> b.type(0));
        checks.argument("type(8) in a full text", () -> b.type(8));
        checks.argument("type(-1) in a full text", () -> b.type(-1));
        checks.due("a refused letter is not kept", 7, () -> b.clearText());
        checks.argument("type(8)", () -> b.type(8));
        checks.argument("type(-1)", () -> b.type(-1));
        checks.argument("type(least)", () -> b.type(Integer.MIN_VALUE));
        checks.due("type is not undoable", 0, () -> b.undo());
    }

    private void clearText() {
        TileWordBoard b = new TileWordBoard();
        text(b, "abc");
        checks.due("clearText", 3, () -> b.clearText());
        checks.due("clearText of the empty text", 0, () -> b.clearText());
        checks.due("type after it", 1, () -> b.type(4));
        checks.state("clearText is not undoable", () -> b.undo());
    }

    private void addWord() {
        TileWordBoard b = new TileWordBoard();
        checks.state("addWord of no letter", () -> b.addWord());
        b.type(0);
        checks.state("addWord of one letter", () -> b.addWord());
        checks.due("the text stays then", 2, () -> b.type(1));
        checks.due("addWord", 1, () -> b.addWord());
        checks.due("the text is empty then", 0, () -> b.clearText());
        text(b, "ab");
        checks.due("addWord of a word that is there", 1, () -> b.addWord());
        checks.due("the text is empty then too", 0, () -> b.clearText());
        checks.due("that saved a state too", 1, () -> b.undo());
        text(b, "hhhhhhh");
        checks.due("addWord of seven letters", 2, () -> b.addWord());
        checks.due("undo of it", 1, () -> b.undo());
        checks.due("the word is away", NONE, () -> number(b, "hhhhhhh"));
        checks.due("the first word is there", 0, () -> number(b, "ab"));
        for (int k = 2; k <= 30; k++) {
            int count = k;
            text(b, "" + (char) ('a' + k % 8) + (char) ('a' + k / 8) + "c");
            checks.due("addWord number " + k, count, () -> b.addWord());
        }
        text(b, "hh");
        checks.state("addWord to 30 words", () -> b.addWord());
        text(b, "ab");
        checks.state("addWord of one of 30 words", () -> b.addWord());
        checks.due("the text stays then", 2, () -> b.clearText());
        checks.due("a refused word saves nothing", 3, () -> b.undo());
        text(b, "hh");
        checks.due("addWord to 29 words", 30, () -> b.addWord());
    }

    private void lookUp() {
        TileWordBoard b = board("ba", "abc", "ab", "abca", "aac", "hhhhhhh", "hhhhhh", "ad");
        String[] sorted = {"aac", "ab", "abc", "abca", "ad", "ba", "hhhhhh", "hhhhhhh"};
        for (int k = 0; k < sorted.length; k++) {
            String word = sorted[k];
            checks.due("lookUp of " + word, k, () -> number(b, word));
        }
        text(b, "aba");
        checks.due("lookUp of no word", NONE, () -> b.lookUp());
        checks.due("the text stays", 3, () -> b.clearText());
        checks.due("lookUp of the empty text", NONE, () -> b.lookUp());
        checks.due("lookUp of a", NONE, () -> number(b, "a"));
        checks.due("lookUp of aa", NONE, () -> number(b, "aa"));
        text(b, "aa");
        b.addWord();
        checks.due("numbers change", 1, () -> number(b, "aac"));
        checks.due("numbers change", 8, () -> number(b, "hhhhhhh"));
    }

    private void setLetter() {
        TileWordBoard b = board("ab", "bb");
        rack(b, 0, "abb");
        checks.due("setLetter", 1, () -> b.setLetter(0, 10, -20));
        checks.due("setLetter again", 10, () -> b.setLetter(0, 7, 20));
        checks.due("setLetter of h", 1, () -> b.setLetter(7, 10, 0));
        text(b, "ab");
        checks.due("value counts", 8, () -> b.playAt(0, 0, 4));
        checks.due("leave value counts for the tile that stays", 22, () -> {
            int bb = 0;
            while (b.playAt(0, bb, 3) != 1) {
                bb++;
            }
            return b.playAt(0, bb, 5);
        });
        checks.argument("setLetter(8)", () -> b.setLetter(8, 1, 0));
        checks.argument("setLetter(-1)", () -> b.setLetter(-1, 1, 0));
        checks.argument("value 0", () -> b.setLetter(0, 0, 0));
        checks.argument("value 11", () -> b.setLetter(0, 11, 0));
        checks.argument("leave 21", () -> b.setLetter(0, 1, 21));
        checks.argument("leave -21", () -> b.setLetter(0, 1, -21));
        checks.due("undo", 3, () -> b.undo());
        checks.due("undo", 2, () -> b.undo());
        checks.due("the value is the one from before", 10, () -> b.setLetter(0, 10, -20));
        checks.due("a call without a change saves too", 2, () -> b.undo());
    }

    private void setPremium() {
        TileWordBoard b = new TileWordBoard();
        checks.due("setPremium", 0, () -> b.setPremium(0, 6, 4));
        checks.due("setPremium again", 4, () -> b.setPremium(0, 6, 1));
        checks.due("the mirrored square is another", 0, () -> b.setPremium(6, 0, 3));
        checks.due("a square nearby", 0, () -> b.setPremium(1, 0, 2));
        checks.due("undo", 3, () -> b.undo());
        checks.due("after undo", 0, () -> b.setPremium(1, 0, 0));
        checks.due("still", 1, () -> b.setPremium(0, 6, 0));
        checks.due("the first square", 0, () -> b.setPremium(0, 0, 3));
        checks.due("the first square again", 3, () -> b.setPremium(0, 0, 3));
        checks.due("the last square", 0, () -> b.setPremium(6, 6, 2));
        checks.due("the last square again", 2, () -> b.setPremium(6, 6, 2));
        checks.index("row 7", () -> b.setPremium(7, 0, 0));
        checks.index("row -1", () -> b.setPremium(-1, 0, 0));
        checks.index("column 7", () -> b.setPremium(0, 7, 0));
        checks.index("column -1", () -> b.setPremium(1, -1, 0));
        checks.index("column 7, premium 5", () -> b.setPremium(0, 7, 5));
        checks.argument("premium 5", () -> b.setPremium(0, 0, 5));
        checks.argument("premium -1", () -> b.setPremium(0, 0, -1));
    }

    private void setRack() {
        TileWordBoard b = new TileWordBoard();
        text(b, "abbha");
        checks.due("setRack", 5, () -> b.setRack(1));
        checks.due("the text is empty", 0, () -> b.clearText());
        checks.due("a", 2, () -> b.onRack(1, 0));
        checks.due("b", 2, () -> b.onRack(1, 1));
        checks.due("h", 1, () -> b.onRack(1, 7));
        checks.due("the other rack", 0, () -> b.onRack(0, 0));
        text(b, "abbhab");
        checks.state("six letters", () -> b.setRack(1));
        checks.index("six letters, player 2", () -> b.setRack(2));
        checks.due("the text stays", 6, () -> b.clearText());
        text(b, "hhhhh");
        checks.index("player 2", () -> b.setRack(2));
        checks.index("player -1", () -> b.setRack(-1));
        checks.due("setRack replaces", 5, () -> b.setRack(1));
        checks.due("five of h", 5, () -> b.onRack(1, 7));
        checks.due("no a any more", 0, () -> b.onRack(1, 0));
        checks.due("an empty rack", 0, () -> b.setRack(1));
        checks.due("no h any more", 0, () -> b.onRack(1, 7));
        checks.due("undo", 2, () -> b.undo());
        checks.due("h again", 5, () -> b.onRack(1, 7));
    }

    private void setTile() {
        TileWordBoard b = new TileWordBoard();
        checks.due("setTile", NONE, () -> b.setTile(6, 6, 7));
        checks.due("setTile again", 7, () -> b.setTile(6, 6, 0));
        checks.due("take it away", 0, () -> b.setTile(6, 6, NONE));
        checks.due("take nothing away", NONE, () -> b.setTile(6, 6, NONE));
        checks.due("undo", 3, () -> b.undo());
        checks.due("undo", 2, () -> b.undo());
        checks.due("the tile is back", 0, () -> b.tileAt(6, 6));
        checks.due("undo", 1, () -> b.undo());
        checks.due("the first tile is back", 7, () -> b.tileAt(6, 6));
        checks.index("no such square", () -> b.setTile(7, 7, 0));
        checks.index("no such square, letter 8", () -> b.setTile(0, 7, 8));
        checks.index("row -1", () -> b.setTile(-1, 3, 0));
        checks.index("column -1", () -> b.setTile(3, -1, 0));
        checks.argument("letter 8", () -> b.setTile(0, 0, 8));
        checks.argument("letter -2", () -> b.setTile(0, 0, -2));
        checks.due("no rack or score changes", 0, () -> b.score(0) + b.onRack(0, 0));
    }

    private void tileAt() {
        TileWordBoard b = new TileWordBoard();
        row(b, 2, 0, "abcdefg");
        for (int column = 0; column < 7; column++) {
            int c = column;
            checks.due("tileAt(2, " + c + ")", c, () -> b.tileAt(2, c));
            checks.due("tileAt(3, " + c + ")", NONE, () -> b.tileAt(3, c));
            checks.due("tileAt(1, " + c + ")", NONE, () -> b.tileAt(1, c));
        }
        checks.index("tileAt(7, 0)", () -> b.tileAt(7, 0));
        checks.index("tileAt(0, 7)", () -> b.tileAt(0, 7));
        checks.index("tileAt(-1, 0)", () -> b.tileAt(-1, 0));
        checks.index("tileAt(2, -1)", () -> b.tileAt(2, -1));
        checks.index("tileAt(least, least)",
                () -> b.tileAt(Integer.MIN_VALUE, Integer.MIN_VALUE));
    }

    private void onRack() {
        TileWordBoard b = new TileWordBoard();
        rack(b, 0, "ahhcc");
        rack(b, 1, "h");
        int[] due = {1, 0, 2, 0, 0, 0, 0, 2};
        for (int letter = 0; letter < 8; letter++) {
            int l = letter;
            checks.due("onRack(0, " + l + ")", due[l], () -> b.onRack(0, l));
            checks.due("onRack(1, " + l + ")", l == 7 ? 1 : 0, () -> b.onRack(1, l));
        }
        checks.index("onRack(2, 8)", () -> b.onRack(2, 8));
        checks.index("onRack(-1, 0)", () -> b.onRack(-1, 0));
        checks.argument("onRack(0, 8)", () -> b.onRack(0, 8));
        checks.argument("onRack(0, -1)", () -> b.onRack(0, -1));
    }

    private void score() {
        TileWordBoard b = board("ab", "abb");
        rack(b, 0, "abb");
        rack(b, 1, "b");
        text(b, "ab");
        b.play(0, 0, 3, 3);
        text(b, "abb");
        b.play(1, 0, 3, 3);
        checks.due("score(0)", 2, () -> b.score(0));
        checks.due("score(1)", 3, () -> b.score(1));
        b.undo();
        checks.due("score(1) after undo", 0, () -> b.score(1));
        checks.due("score(0) after undo", 2, () -> b.score(0));
        checks.index("score(2)", () -> b.score(2));
        checks.index("score(-1)", () -> b.score(-1));
    }

    private void crossSet() {
        TileWordBoard b = board("ab", "cab", "bc", "abh", "aba");
        row(b, 3, 2, "a.");
        checks.due("right of a, word down", 2, () -> b.crossSet(3, 3, 1));
        checks.due("right of a, word across", 255, () -> b.crossSet(3, 3, 0));
        checks.due("left of a", 0, () -> b.crossSet(3, 1, 1));
        checks.due("above a", 0, () -> b.crossSet(2, 2, 0));
        checks.due("below a", 2, () -> b.crossSet(4, 2, 0));
        checks.due("on a", 0, () -> b.crossSet(3, 2, 0));
        checks.due("on a", 0, () -> b.crossSet(3, 2, 1));
        row(b, 3, 2, "ab");
        checks.due("before ab", 4, () -> b.crossSet(3, 1, 1));
        checks.due("behind ab", 129, () -> b.crossSet(3, 4, 1));
        row(b, 5, 4, "a.b");
        checks.due("between a and b", 0, () -> b.crossSet(5, 5, 1));
        text(b, "aab");
        b.addWord();
        text(b, "ahb");
        b.addWord();
        checks.due("between a and b", 129, () -> b.crossSet(5, 5, 1));
        row(b, 0, 0, "abcdef");
        checks.due("a line up to the edge", 0, () -> b.crossSet(0, 6, 1));
        text(b, "abcdefh");
        b.addWord();
        checks.due("a word of seven letters", 128, () -> b.crossSet(0, 6, 1));
        checks.due("no step over the edge", 255, () -> b.crossSet(1, 0, 1));
        checks.index("column 7", () -> b.crossSet(0, 7, 2));
        checks.index("row -1", () -> b.crossSet(-1, 0, 0));
        checks.argument("direction 2", () -> b.crossSet(0, 0, 2));
        checks.argument("direction -1 on a tile", () -> b.crossSet(3, 2, -1));
    }

    private void anchors() {
        TileWordBoard b = new TileWordBoard();
        checks.due("anchors of the empty board", 1, () -> b.anchors());
        b.setTile(0, 0, 0);
        checks.due("in the corner", 2, () -> b.anchors());
        b.setTile(0, 6, 0);
        checks.due("in two corners", 4, () -> b.anchors());
        b.setTile(6, 0, 0);
        b.setTile(6, 6, 0);
        checks.due("in four corners", 8, () -> b.anchors());
        b.setTile(3, 3, 0);
        checks.due("and on the centre", 12, () -> b.anchors());
        b.setTile(3, 5, 0);
        checks.due("one square shared", 15, () -> b.anchors());
        for (int square = 0; square < 49; square++) {
            b.setTile(square / 7, square % 7, 1);
        }
        checks.due("a full board", 0, () -> b.anchors());
        b.setTile(4, 4, NONE);
        checks.due("a full board but one", 1, () -> b.anchors());
    }

    private void isAnchor() {
        TileWordBoard b = new TileWordBoard();
        checks.due("the centre of the empty board", 1, () -> b.isAnchor(3, 3) ? 1 : 0);
        checks.due("beside it", 0, () -> b.isAnchor(3, 2) ? 1 : 0);
        b.setTile(2, 6, 5);
        for (int square = 0; square < 49; square++) {
            int r = square / 7;
            int c = square % 7;
            int due = Math.abs(r - 2) + Math.abs(c - 6) == 1 ? 1 : 0;
            checks.due("isAnchor(" + r + ", " + c + ")", due, () -> b.isAnchor(r, c) ? 1 : 0);
        }
        checks.index("isAnchor(7, 3)", () -> b.isAnchor(7, 3) ? 1 : 0);
        checks.index("isAnchor(-1, 3)", () -> b.isAnchor(-1, 3) ? 1 : 0);
        checks.index("isAnchor(2, 7)", () -> b.isAnchor(2, 7) ? 1 : 0);
        checks.index("isAnchor(3, -1)", () -> b.isAnchor(3, -1) ? 1 : 0);
    }

    private void check() {
        TileWordBoard b = board("ab", "abab", "abababa");
        rack(b, 0, "ab");
        checks.due("no text", 1, () -> b.check(0, 0, 3, 3));
        text(b, "ba");
        checks.due("no word", 1, () -> b.check(0, 0, 3, 3));
        text(b, "ab");
        checks.due("good across", 0, () -> b.check(0, 0, 3, 2));
        checks.due("good down", 0, () -> b.check(0, 1, 2, 3));
        checks.due("beyond the board across", 2, () -> b.check(0, 0, 3, 6));
        checks.due("beyond the board down", 2, () -> b.check(0, 1, 6, 3));
        checks.due("up to the edge across", 7, () -> b.check(0, 0, 3, 5));
        checks.due("up to the edge down", 7, () -> b.check(0, 1, 5, 3));
        checks.due("the other rack is empty", 6, () -> b.check(1, 0, 3, 3));
        checks.due("the text stays", 2, () -> b.clearText());
        text(b, "abababa");
        checks.due("seven letters fit", 6, () -> b.check(0, 0, 3, 0));
        checks.due("seven letters do not fit", 2, () -> b.check(0, 0, 3, 1));
        checks.due("seven letters fit down", 6, () -> b.check(0, 1, 0, 3));
        row(b, 3, 0, "a.ababa");
        rack(b, 0, "b");
        text(b, "abababa");
        checks.due("one tile is missing", 0, () -> b.check(0, 0, 3, 0));
        checks.index("player 2", () -> b.check(2, 2, 0, 0));
        checks.index("player -1", () -> b.check(-1, 0, 0, 0));
        checks.index("row 7", () -> b.check(0, 2, 7, 0));
        checks.index("row -1", () -> b.check(0, 0, -1, 0));
        checks.index("column 7", () -> b.check(0, 0, 0, 7));
        checks.index("column -1", () -> b.check(0, 0, 1, -1));
        checks.argument("direction 2", () -> b.check(0, 2, 0, 0));
        checks.argument("direction -1", () -> b.check(0, -1, 0, 0));
    }

    private void checkOrder() {
        TileWordBoard b = board("ab", "bb");
        row(b, 3, 1, "a.....");
        text(b, "ba");
        checks.due("1 before 2", 1, () -> b.check(0, 0, 3, 6));
        text(b, "bb");
        checks.due("2 before 3", 2, () -> b.check(0, 1, 6, 1));
        b.setTile(3, 5, 0);
        checks.due("2 before 3, a tile before", 2, () -> b.check(0, 0, 3, 6));
        b.setTile(3, 5, NONE);
        row(b, 5, 1, "aaa");
        checks.due("3 before 4, a tile behind", 3, () -> b.check(0, 0, 5, 1));
        checks.due("3 before 4, a tile before", 3, () -> b.check(0, 0, 5, 2));
        row(b, 5, 1, "aa.");
        checks.due("4 before 5", 4, () -> b.check(0, 0, 5, 1));
        row(b, 5, 1, "bb.");
        checks.due("5 before 6", 5, () -> b.check(0, 0, 5, 1));
        checks.due("6 before 7", 6, () -> b.check(0, 0, 0, 3));
        rack(b, 0, "b");
        text(b, "bb");
        checks.due("one of two tiles", 6, () -> b.check(0, 0, 0, 3));
        rack(b, 0, "bb");
        text(b, "bb");
        checks.due("not connected", 7, () -> b.check(0, 0, 0, 3));
        checks.due("6 before 8", 6, () -> b.check(1, 0, 2, 1));
        checks.due("7 is met, 8 is not: bab", 8, () -> b.check(0, 0, 4, 1));
        rack(b, 0, "ab");
        text(b, "ab");
        checks.due("4 by a later letter", 4, () -> b.check(0, 0, 3, 0));
        b.setTile(3, 0, NONE);
        checks.due("a cross word of two tiles", 8, () -> b.check(0, 1, 4, 0));
    }

    private void connection() {
        TileWordBoard b = board("ab", "aba");
        rack(b, 0, "aabb");
        text(b, "ab");
        checks.due("the empty board, left of the centre", 7, () -> b.check(0, 0, 3, 1));
        checks.due("the empty board, last letter on the centre", 0, () -> b.check(0, 0, 3, 2));
        checks.due("the empty board, first letter on the centre", 0, () -> b.check(0, 0, 3, 3));
        checks.due("the empty board, right of the centre", 7, () -> b.check(0, 0, 3, 4));
        checks.due("the empty board, row above", 7, () -> b.check(0, 0, 2, 3));
        checks.due("the empty board, down, above the centre", 7, () -> b.check(0, 1, 1, 3));
        checks.due("the empty board, down, from the centre", 0, () -> b.check(0, 1, 3, 3));
        b.setTile(0, 6, 0);
        checks.due("the centre counts no more", 7, () -> b.check(0, 0, 3, 3));
        checks.due("the next row's start is not beside it", 7, () -> b.check(0, 1, 1, 0));
        checks.due("the tile in the word", 0, () -> b.check(0, 1, 0, 6));
        checks.due("a tile behind the word only", 3, () -> b.check(0, 0, 0, 4));
        checks.due("beside a tile: cross word aa", 8, () -> b.check(0, 1, 0, 5));
        text(b, "aba");
        b.setTile(0, 6, 1);
        checks.due("beside a tile: cross word ab", 0, () -> b.check(0, 1, 0, 5));
        checks.due("diagonal only", 7, () -> b.check(0, 1, 1, 5));
    }

    private void play() {
        TileWordBoard b = board("ab", "abb");
        rack(b, 0, "abbaa");
        text(b, "ab");
        checks.due("play", 2, () -> b.play(0, 1, 3, 3));
        checks.due("tile", 0, () -> b.tileAt(3, 3));
        checks.due("tile", 1, () -> b.tileAt(4, 3));
        checks.due("rack a", 2, () -> b.onRack(0, 0));
        checks.due("rack b", 1, () -> b.onRack(0, 1));
        checks.due("score", 2, () -> b.score(0));
        checks.due("other score", 0, () -> b.score(1));
        checks.due("the text is empty", 0, () -> b.clearText());
        checks.state("no word", () -> b.play(0, 1, 3, 3));
        text(b, "abb");
        checks.due("play onto tiles", 3, () -> b.play(0, 1, 3, 3));
        checks.due("only the missing tile is taken", 2, () -> b.onRack(0, 0));
        checks.due("only the missing tile is taken", 0, () -> b.onRack(0, 1));
        text(b, "abb");
        checks.state("no empty square", () -> b.play(0, 1, 3, 3));
        checks.state("beyond the board", () -> b.play(0, 1, 6, 3));
        checks.index("player 2", () -> b.play(2, 2, 9, 0));
        checks.index("player -1", () -> b.play(-1, 0, 0, 0));
        checks.index("column 7", () -> b.play(0, 2, 0, 7));
        checks.index("column -1", () -> b.play(0, 0, 0, -1));
        checks.index("row 7", () -> b.play(0, 2, 7, 0));
        checks.index("row -1", () -> b.play(0, 0, -1, 0));
        checks.argument("direction 2 of a refused play", () -> b.play(0, 2, 0, 0));
        checks.argument("direction -1", () -> b.play(0, -1, 0, 0));
        checks.due("a refused play keeps the text", 3, () -> b.clearText());
        b.type(5);
        checks.due("undo", 3, () -> b.undo());
        checks.due("the tile is away", NONE, () -> b.tileAt(5, 3));
        checks.due("the score is back", 2, () -> b.score(0));
        checks.due("the rack is back", 1, () -> b.onRack(0, 1));
        checks.due("the text is as it was before undo", 1, () -> b.clearText());
        rack(b, 1, "ab");
        text(b, "ab");
        checks.due("play of player 1, with a cross word abb", 5, () -> b.play(1, 0, 5, 2));
        checks.due("score of player 1", 5, () -> b.score(1));
    }

    private void scoring() {
        TileWordBoard b = board("abcde", "ab", "bc", "abc");
        int[] values = {1, 2, 3, 4, 5};
        for (int letter = 0; letter < 5; letter++) {
            b.setLetter(letter, values[letter], 0);
        }
        b.setPremium(3, 1, 4);
        b.setPremium(3, 2, 3);
        b.setPremium(3, 3, 1);
        b.setPremium(3, 4, 2);
        rack(b, 0, "edcba");
        text(b, "abcde");
        checks.due("five tiles over all premiums", (1 + 2 + 6 + 12 + 5) * 6 + 20,
                () -> b.play(0, 0, 3, 1));
        rack(b, 0, "ac");
        text(b, "abc");
        checks.due("a premium under a tile counts no more", 6, () -> b.play(0, 1, 2, 2));
        b.undo();
        b.setPremium(2, 2, 4);
        b.setPremium(4, 2, 2);
        text(b, "abc");
        checks.due("the premiums of the new squares count", (1 + 2 + 9) * 3,
                () -> b.play(0, 1, 2, 2));

        TileWordBoard c = board("ab", "bc", "ac", "cb");
        for (int letter = 0; letter < 5; letter++) {
            c.setLetter(letter, values[letter], 0);
        }
        row(c, 3, 2, "ac");
        c.setPremium(4, 2, 3);
        c.setPremium(4, 3, 2);
        rack(c, 1, "bb");
        text(c, "bb");
        c.addWord();
        text(c, "bb");
        checks.due("word and cross words: each new square's premium counts in both",
                (2 + 6) * 2 + (1 + 2) * 2 + (3 + 6), () -> c.play(1, 0, 4, 2));
        checks.due("score", 31, () -> c.score(1));

        TileWordBoard d = board("aaaaaaa", "aaaaaa");
        row(d, 3, 5, "aa");
        rack(d, 0, "aaaaa");
        text(d, "aaaaaaa");
        checks.due("seven letters, five new", 27, () -> d.play(0, 0, 3, 0));
        TileWordBoard e = board("aaaaaa");
        row(e, 3, 2, "aa");
        rack(e, 0, "aaaaa");
        text(e, "aaaaaa");
        checks.due("six letters, four new", 6, () -> e.play(0, 0, 3, 1));
    }

    private void plays() {
        TileWordBoard b = board("ab", "ba");
        checks.due("an empty rack", 0, () -> b.plays(0));
        rack(b, 0, "ab");
        checks.due("two words, two places, two directions", 8, () -> b.plays(0));
        checks.due("the other player", 0, () -> b.plays(1));
        checks.due("nothing is saved", 2, () -> b.undo());
        TileWordBoard edge = board("aaaaaaa", "aaa");
        row(edge, 3, 0, "aaaaaa");
        rack(edge, 0, "aa");
        checks.due("a word up to both edges, and two down", 1 + 7 * 3 - 3, () -> edge.plays(0));
        TileWordBoard corner = board("ab");
        corner.setTile(0, 0, 0);
        rack(corner, 0, "b");
        checks.due("both ways from the corner", 2, () -> corner.plays(0));
        checks.due("the first play of all", "0 0 0 0 2 2", described(corner, 0, 0));
        checks.due("it is the best", 0, () -> corner.bestPlay(0));
        corner.setPremium(1, 0, 1);
        checks.due("now the second is", 1, () -> corner.bestPlay(0));
        corner.setTile(0, 0, NONE);
        corner.setTile(6, 6, 1);
        rack(corner, 0, "a");
        checks.due("up to the last square", "0 6 5 0 2 2", described(corner, 0, 0));
        checks.due("and down to it", "1 5 6 0 2 2", described(corner, 0, 1));
        checks.index("plays(2)", () -> b.plays(2));
        checks.index("plays(-1)", () -> b.plays(-1));
        TileWordBoard c = board("aa");
        c.setTile(2, 2, 0);
        rack(c, 1, "a");
        checks.due("along a tile", 4, () -> c.plays(1));
        c.setTile(3, 3, 0);
        checks.due("a tile that makes a word in both directions gives two plays",
                "0 2 2 0 4 4", described(c, 1, 1));
    }

    private void playAt() {
        TileWordBoard b = board("ab", "ba");
        b.setLetter(0, 2, 5);
        b.setPremium(3, 2, 1);
        rack(b, 0, "aab");
        String[] due = {"0 3 2 0 5 10", "0 3 2 1 4 9", "0 3 3 0 3 8", "0 3 3 1 3 8",
            "1 2 3 0 3 8", "1 2 3 1 3 8", "1 3 3 0 3 8", "1 3 3 1 3 8"};
        for (int k = 0; k < due.length; k++) {
            checks.due("play " + k, due[k], described(b, 0, k));
        }
        checks.index("play 8", () -> b.playAt(0, 8, 0));
        checks.index("play 8, what 6", () -> b.playAt(0, 8, 6));
        checks.index("play -1", () -> b.playAt(0, -1, 0));
        checks.index("play greatest", () -> b.playAt(0, Integer.MAX_VALUE, 0));
        checks.index("play least", () -> b.playAt(0, Integer.MIN_VALUE, 0));
        checks.index("player 2", () -> b.playAt(2, 0, 0));
        checks.index("player -1, what 6", () -> b.playAt(-1, 0, 6));
        checks.index("player 1 has no play", () -> b.playAt(1, 0, 0));
        checks.argument("what 6", () -> b.playAt(0, 0, 6));
        checks.argument("what -1", () -> b.playAt(0, 0, -1));
    }

    private void bestPlay() {
        TileWordBoard b = board("ab", "bb");
        checks.due("no play", NONE, () -> b.bestPlay(0));
        rack(b, 0, "abb");
        checks.due("the first of equal ones", 0, () -> b.bestPlay(0));
        b.setLetter(0, 1, 3);
        checks.due("the leave value of a", 1, () -> b.bestPlay(0));
        b.setPremium(4, 3, 4);
        checks.due("the premium", "1 3 3 1 6 9", described(b, 0, b.bestPlay(0)));
        b.setLetter(0, 1, -20);
        checks.due("a bad leave value", "1 3 3 0 6 6", described(b, 0, b.bestPlay(0)));
        TileWordBoard c = board("ab");
        c.setLetter(2, 1, -20);
        rack(c, 1, "abccc");
        checks.due("an equity below 0 is still the best", 0, () -> c.bestPlay(1));
        checks.due("it is", -58, () -> c.playAt(1, 0, 5));
        checks.due("the other player has none", NONE, () -> c.bestPlay(0));
        checks.index("bestPlay(2)", () -> c.bestPlay(2));
        checks.index("bestPlay(-1)", () -> c.bestPlay(-1));
    }

    private void playBest() {
        TileWordBoard b = board("ab", "abc");
        checks.state("no play", () -> b.playBest(1));
        rack(b, 1, "cba");
        text(b, "ef");
        checks.due("playBest", 3, () -> b.playBest(1));
        checks.due("score", 3, () -> b.score(1));
        checks.due("tile", 0, () -> b.tileAt(3, 1));
        checks.due("tile", 2, () -> b.tileAt(3, 3));
        checks.due("rack", 0, () -> b.onRack(1, 0) + b.onRack(1, 1) + b.onRack(1, 2));
        checks.due("the text stays", 2, () -> b.clearText());
        checks.state("no play any more", () -> b.playBest(1));
        checks.due("undo", 3, () -> b.undo());
        checks.due("score after undo", 0, () -> b.score(1));
        checks.due("tile after undo", NONE, () -> b.tileAt(3, 2));
        checks.due("rack after undo", 1, () -> b.onRack(1, 2));
        checks.index("playBest(2)", () -> b.playBest(2));
        checks.index("playBest(-1)", () -> b.playBest(-1));
    }

    private void endgame() {
        TileWordBoard b = board("ab");
        b.setLetter(2, 7, 0);
        rack(b, 0, "ab");
        rack(b, 1, "c");
        long before = b.digest();
        checks.due("a play that ends it: 2 points and twice 7", 16, () -> b.endgame(0));
        checks.due("player 1 can only pass", -16, () -> b.endgame(1));
        checks.due("nothing changes", before, () -> b.digest());
        checks.index("endgame(2)", () -> b.endgame(2));
        checks.index("endgame(-1)", () -> b.endgame(-1));
        TileWordBoard c = board("ab", "abb");
        c.setTile(3, 3, 0);
        c.setTile(0, 3, 3);
        c.setLetter(3, 10, 0);
        rack(c, 0, "bd");
        rack(c, 1, "bd");
        long here = c.digest();
        checks.due("both have a tile that stays", c.endgame(0), () -> c.endgame(1));
        checks.due("nothing changes", here, () -> c.digest());
    }

    private void endgameEnds() {
        TileWordBoard b = new TileWordBoard();
        b.setLetter(1, 4, 0);
        rack(b, 0, "aab");
        checks.due("own rack full, the other empty", -12, () -> b.endgame(0));
        checks.due("own rack empty, the other full", 12, () -> b.endgame(1));
        rack(b, 1, "b");
        checks.due("two passes", -2, () -> b.endgame(0));
        checks.due("two passes", 2, () -> b.endgame(1));
        rack(b, 0, "");
        rack(b, 1, "");
        checks.due("two empty racks", 0, () -> b.endgame(0));
        checks.due("two empty racks", 0, () -> b.endgame(1));

        TileWordBoard c = board("ab");
        c.setTile(0, 0, 0);
        c.setLetter(3, 10, 0);
        rack(c, 0, "bd");
        rack(c, 1, "b");
        checks.due("2 points, then 2 and twice 10 for the other", -20, () -> c.endgame(0));
        checks.due("2 points and twice 11", 24, () -> c.endgame(1));

        TileWordBoard d = board("ab", "ac");
        d.setTile(0, 0, 0);
        d.setTile(2, 0, 7);
        d.setLetter(2, 9, 0);
        rack(d, 0, "bc");
        rack(d, 1, "d");
        checks.due("ac on the only place, then b and d stay", 10, () -> d.endgame(0));
        checks.due("after a pass it is the same", -10, () -> d.endgame(1));
    }

    private void endgameLimit() {
        TileWordBoard b = board("ba", "cba");
        rack(b, 0, "bac");
        rack(b, 1, "ba");
        b.setTile(5, 4, 1);
        long before = b.digest();
        checks.due("400 positions", 9, () -> b.endgame(0));
        checks.due("nothing changes", before, () -> b.digest());
        checks.due("400 positions once more", 9, () -> b.endgame(0));
        TileWordBoard c = board("ba");
        rack(c, 0, "bba");
        rack(c, 1, "abb");
        c.setTile(6, 1, 0);
        c.setTile(5, 1, 1);
        long here = c.digest();
        checks.state("401 positions", () -> c.endgame(0));
        checks.due("nothing changes", here, () -> c.digest());
        TileWordBoard d = board("ab", "ba", "aab", "bba", "abab");
        rack(d, 0, "aabbb");
        rack(d, 1, "aabbb");
        long there = d.digest();
        checks.state("far more positions", () -> d.endgame(1));
        checks.index("player 2 first", () -> d.endgame(2));
        checks.due("nothing changes", there, () -> d.digest());
    }

    private void undo() {
        TileWordBoard b = new TileWordBoard();
        checks.state("no saved state", () -> b.undo());
        for (int k = 1; k <= 6; k++) {
            b.setLetter(0, k + 1, 0);
        }
        checks.due("four states are saved", 3, () -> b.undo());
        text(b, "abc");
        checks.due("undo", 2, () -> b.undo());
        checks.due("undo", 1, () -> b.undo());
        checks.due("undo", 0, () -> b.undo());
        checks.state("the oldest are dropped", () -> b.undo());
        checks.due("the text stays", 3, () -> b.clearText());
        checks.due("the state from before the third call", 3, () -> b.setLetter(0, 9, 0));
        checks.due("undo", 0, () -> b.undo());
        b.setLetter(0, 5, 0);
        b.setPremium(0, 0, 1);
        b.undo();
        b.setTile(0, 0, 1);
        checks.due("undo after undo", 1, () -> b.undo());
        checks.due("premium", 0, () -> b.setPremium(0, 0, 0));
        checks.due("value", 5, () -> b.setLetter(0, 1, 0));

        TileWordBoard d = board("cd", "bc");
        rack(d, 0, "bcd");
        d.setLetter(3, 1, 7);
        long settings = d.digest();
        d.setLetter(3, 1, -7);
        text(d, "ab");
        d.addWord();
        checks.due("the first word is another", 2, () -> number(d, "cd"));
        d.undo();
        checks.due("the words have their numbers again", 0, () -> number(d, "bc"));
        checks.due("the words have their numbers again", 1, () -> number(d, "cd"));
        d.undo();
        checks.due("the leave value is back", 9, () -> d.playAt(0, 0, 5));
        d.setPremium(0, 0, 0);
        d.undo();
        d.setLetter(3, 1, 7);
        checks.due("all is as before, with one saved state less", settings - 1,
                () -> d.digest());

        TileWordBoard c = board("ab");
        rack(c, 0, "ab");
        text(c, "abc");
        c.undo();
        c.undo();
        checks.due("a rack and a word are undone", 0, () -> c.plays(0));
        c.clearText();
        long before = c.digest();
        rack(c, 0, "ab");
        text(c, "ab");
        c.addWord();
        c.setPremium(3, 3, 2);
        text(c, "ab");
        c.play(0, 0, 3, 3);
        checks.due("undo of play", 3, () -> c.undo());
        checks.due("undo of setPremium", 2, () -> c.undo());
        checks.due("undo of addWord", 1, () -> c.undo());
        checks.due("undo of setRack", 0, () -> c.undo());
        checks.due("all is as before", before, () -> c.digest());
    }

    private void digest() {
        TileWordBoard b = new TileWordBoard();
        checks.due("new digest", digestOf("0 1010101010101010 0", 1, 0), () -> b.digest());
        b.type(2);
        b.type(7);
        checks.due("the text counts", digestOf("227 1010101010101010 0", 1, 0), () -> b.digest());
        b.addWord();
        checks.due("words and saved states count", digestOf("0 1010101010101010 1227", 1, 1),
                () -> b.digest());
        b.setLetter(1, 6, 5);
        checks.due("letters count", digestOf("0 1065101010101010 1227", 1, 2), () -> b.digest());
        long before = b.digest();
        b.setTile(0, 1, 3);
        long tile = b.digest();
        checks.due("a tile counts", "true", "" + (tile != before));
        b.undo();
        checks.due("undo", before, () -> b.digest());
        b.setPremium(0, 1, 3);
        checks.due("a premium counts", "true", "" + (b.digest() != before));
        checks.due("it counts another way", "true", "" + (b.digest() != tile));
        b.undo();
        rack(b, 0, "a");
        long rack = b.digest();
        b.undo();
        rack(b, 1, "a");
        checks.due("whose rack it is counts", "true", "" + (b.digest() != rack));
    }

    private void digestOfAGame() {
        TileWordBoard b = board("ab", "cab");
        b.setPremium(6, 6, 2);
        rack(b, 0, "abh");
        rack(b, 1, "cccc");
        text(b, "ab");
        b.play(0, 1, 3, 3);
        text(b, "cab");
        b.play(1, 1, 2, 3);
        int[] settings = {1, 0, 1, 0, 1, 0, 1, 0, 1, 0, 1, 0, 1, 0, 1, 0, 2, 2, 0, 1, 3, 2, 0, 1};
        int[] squares = new int[98];
        for (int square = 0; square < 49; square++) {
            squares[2 * square] = NONE;
        }
        squares[2 * 17] = 2;
        squares[2 * 24] = 0;
        squares[2 * 31] = 1;
        squares[2 * 48 + 1] = 2;
        int[] playerOne = {0, 0, 3, 0, 0, 0, 0, 0, 3, 0};
        long empty = hash(2803, 0);
        checks.due("digest without plays", hash(hash(hash(hash(hash(empty, settings), squares),
                0, 0, 0, 0, 0, 0, 0, 1, 2, 0), playerOne), 8, 4), () -> b.digest());
        rack(b, 0, "ab");
        checks.due("digest with four plays", hash(hash(hash(hash(hash(empty, settings), squares),
                1, 1, 0, 0, 0, 0, 0, 0, 2, 4), playerOne), 8, 4), () -> b.digest());
        text(b, "gh");
        long text = hash(2803, 2, 6, 7);
        checks.due("digest with a text", hash(hash(hash(hash(hash(text, settings), squares),
                1, 1, 0, 0, 0, 0, 0, 0, 2, 4), playerOne), 8, 4), () -> b.digest());
    }

    /** The digest of an empty board and empty racks behind some digits. */
    private static long digestOf(String digits, int anchors, int saved) {
        long h = 2803;
        for (char digit : digits.replace(" ", "").toCharArray()) {
            h = 31 * h + (digit - '0');
        }
        for (int square = 0; square < 49; square++) {
            h = 31 * h - 1;
            h = 31 * h;
        }
        for (int count = 0; count < 20; count++) {
            h = 31 * h;
        }
        return 31 * (31 * h + anchors) + saved;
    }

    private void failedCallsChangeNothing() {
        TileWordBoard b = board("ab");
        rack(b, 0, "ab");
        text(b, "abcabca");
        long before = b.digest();
        checks.state("type", () -> b.type(0));
        checks.argument("setLetter", () -> b.setLetter(0, 2, 99));
        checks.argument("setPremium", () -> b.setPremium(0, 0, 9));
        checks.state("setRack", () -> b.setRack(0));
        checks.argument("setTile", () -> b.setTile(0, 0, 9));
        checks.state("play", () -> b.play(0, 0, 3, 3));
        checks.state("playBest", () -> b.playBest(1));
        checks.due("nothing has changed", before, () -> b.digest());
        checks.due("nothing was saved", 1, () -> b.undo());
    }

    private void examples() {
        TileWordBoard b = board("ab");
        text(b, "ab");
        checks.due("1 setRack(0)", 2, () -> b.setRack(0));
        checks.due("1 setPremium(3, 3, 3)", 0, () -> b.setPremium(3, 3, 3));
        checks.due("1 plays(0)", 4, () -> b.plays(0));
        checks.due("1 playBest(0)", 4, () -> b.playBest(0));
        checks.due("1 score(0)", 4, () -> b.score(0));
        checks.due("1 anchors()", 6, () -> b.anchors());
        TileWordBoard c = board("aa");
        rack(c, 0, "a");
        checks.due("2 setTile(2, 2, 0)", NONE, () -> c.setTile(2, 2, 0));
        checks.due("2 plays(0)", 4, () -> c.plays(0));
        checks.due("2 crossSet(2, 3, 1)", 1, () -> c.crossSet(2, 3, 1));
        checks.due("2 crossSet(3, 2, 0)", 1, () -> c.crossSet(3, 2, 0));
        checks.due("2 crossSet(2, 2, 0)", 0, () -> c.crossSet(2, 2, 0));
        TileWordBoard d = board("ba");
        text(d, "ba");
        checks.due("3 check(0, 0, 3, 3)", 6, () -> d.check(0, 0, 3, 3));
        checks.due("3 check(0, 0, 3, 6)", 2, () -> d.check(0, 0, 3, 6));
        checks.due("3 setTile(3, 5, 0)", NONE, () -> d.setTile(3, 5, 0));
        checks.due("3 check(0, 0, 3, 3)", 3, () -> d.check(0, 0, 3, 3));
        TileWordBoard e = new TileWordBoard();
        e.setTile(0, 0, 1);
        rack(e, 0, "a");
        rack(e, 1, "bb");
        checks.due("4 endgame(0)", 1, () -> e.endgame(0));
        checks.due("4 endgame(1)", -1, () -> e.endgame(1));
        TileWordBoard f = new TileWordBoard();
        checks.argument("5 type(8)", () -> f.type(8));
        checks.state("5 addWord()", () -> f.addWord());
        checks.state("5 playBest(0)", () -> f.playBest(0));
        checks.state("5 undo()", () -> f.undo());
    }
}
