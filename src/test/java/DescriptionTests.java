/**
 * The sentences of the document's part 'Description' that name an edge: the conditions of a play,
 * each by itself and each before the later ones, points, the order of the list of plays, equity,
 * cross sets, anchors, the ends of an endgame, and what is saved. What holds across holds down:
 * most boards are laid both ways.
 */
public final class DescriptionTests extends BoardChecks {
    private static final int SIDE = 7;

    /** The words of each game, in alphabetical order. */
    private static final String[][] WORDS_OF_GAMES = {{"ab", "bca"}, {"ab", "ba"}, {"aa", "aaa"},
        {"ab", "ba"}, {"ab", "abababa"}, {"abc", "ba"}};

    public static void main(String[] arguments) {
        DescriptionTests tests = new DescriptionTests();
        tests.alphabeticalOrder();
        for (int direction = 0; direction < 2; direction++) {
            tests.orderOfConditions(direction);
            tests.beyondTheBoard(direction);
            tests.tilesBeforeAndBehind(direction);
            tests.tilesOfTheWord(direction);
            tests.tilesOfTheRack(direction);
            tests.firstPlay(direction);
            tests.connection(direction);
            tests.crossWords(direction);
            tests.pointsOfTheWord(direction);
            tests.pointsOfACrossWord(direction);
            tests.bonus(direction);
            tests.crossSets(direction);
        }
        tests.neighboursAcrossTheEdge();
        tests.listHoldsEachPlay();
        tests.equity();
        tests.bestOfEqualOnes();
        tests.anchors();
        tests.endgameEnds();
        tests.endgamePasses();
        tests.endgameCountsFromNow();
        tests.endgamePositions();
        tests.checks.close("DescriptionTests");
    }

    /** Lays tiles told as row, column and letter, "34a"; the other way round for direction 1. */
    private static void lay(TileWordBoard board, int direction, String tiles) {
        for (String tile : tiles.isEmpty() ? new String[0] : tiles.split(" ")) {
            int r = tile.charAt(0) - '0';
            int c = tile.charAt(1) - '0';
            board.setTile(direction == 0 ? r : c, direction == 0 ? c : r, tile.charAt(2) - 'a');
        }
    }

    private static int check(TileWordBoard board, int direction, int r, int c) {
        return board.check(0, direction, direction == 0 ? r : c, direction == 0 ? c : r);
    }

    private static TileWordBoard laid(int direction, String tiles, String rack, String... words) {
        TileWordBoard board = board(words);
        rack(board, 0, rack);
        lay(board, direction, tiles);
        return board;
    }

    private void alphabeticalOrder() {
        String[] sorted = {"aa", "aaa", "aaaa", "aaaaa", "aaaaaa", "aaaaaaa", "aaaaaab", "aaab",
            "ab", "aba", "abaaaaa", "abb", "bb", "hhhhhh", "hhhhhhh"};
        for (int step : new int[] {1, 2, 4, 7, 8, 11, 13, 14}) {
            TileWordBoard b = new TileWordBoard();
            for (int k = 0; k < sorted.length; k++) {
                text(b, sorted[k * step % sorted.length]);
                b.addWord();
            }
            for (int k = 0; k < sorted.length; k++) {
                String word = sorted[k];
                checks.due("number of " + word, k, () -> number(b, word));
            }
        }
        TileWordBoard b = board("ba");
        text(b, "bb");
        b.addWord();
        checks.due("a later word changes no number", 0, () -> number(b, "ba"));
        text(b, "ab");
        b.addWord();
        checks.due("an earlier word changes the numbers", 1, () -> number(b, "ba"));
        checks.due("an earlier word changes the numbers", 2, () -> number(b, "bb"));
    }

    /** A play of ab that violates the condition and a later one. */
    private void order(int direction, int reason, int later, String tiles, String rack,
            int r, int c) {
        TileWordBoard b = laid(direction, tiles, rack, "ab");
        text(b, "ab");
        checks.due(reason + " before " + later + ", direction " + direction, reason,
                () -> check(b, direction, r, c));
    }

    private void orderOfConditions(int direction) {
        beforeTheFirst(direction, 2, "", "aa", 3, 6);
        beforeTheFirst(direction, 3, "32a", "aa", 3, 3);
        beforeTheFirst(direction, 3, "35a", "aa", 3, 3);
        beforeTheFirst(direction, 4, "33b", "aa", 3, 3);
        beforeTheFirst(direction, 5, "33a 34a", "aa", 3, 3);
        beforeTheFirst(direction, 6, "", "", 3, 3);
        beforeTheFirst(direction, 7, "", "aa", 0, 0);
        beforeTheFirst(direction, 8, "23c", "aa", 3, 3);
        order(direction, 2, 3, "35a", "ab", 3, 6);
        order(direction, 2, 4, "36b", "ab", 3, 6);
        order(direction, 2, 5, "36a", "ab", 3, 6);
        order(direction, 2, 6, "", "", 3, 6);
        order(direction, 2, 7, "00a", "ab", 3, 6);
        order(direction, 2, 8, "26c", "ab", 3, 6);
        order(direction, 3, 4, "32a 33b", "ab", 3, 3);
        order(direction, 3, 4, "34a 35a", "ab", 3, 3);
        order(direction, 3, 5, "32a 33a 34b", "ab", 3, 3);
        order(direction, 3, 5, "33a 34b 35a", "ab", 3, 3);
        order(direction, 3, 6, "32a", "", 3, 3);
        order(direction, 3, 6, "35a", "b", 3, 3);
        order(direction, 3, 7, "32a", "ab", 3, 3);
        order(direction, 3, 7, "35a", "ab", 3, 3);
        order(direction, 3, 8, "32a 23c", "ab", 3, 3);
        order(direction, 4, 5, "33b 34b", "ab", 3, 3);
        order(direction, 4, 6, "33b", "", 3, 3);
        order(direction, 4, 8, "33b 44c", "b", 3, 3);
        order(direction, 6, 7, "", "b", 0, 0);
        order(direction, 6, 7, "66a", "a", 3, 3);
        order(direction, 6, 8, "23c", "a", 3, 3);
    }

    /** The text aa, first no word and then one: the later condition comes to light then. */
    private void beforeTheFirst(int direction, int later, String tiles, String rack,
            int r, int c) {
        TileWordBoard b = laid(direction, tiles, rack, "ab");
        text(b, "aa");
        checks.due("1 before " + later, 1, () -> check(b, direction, r, c));
        b.addWord();
        text(b, "aa");
        checks.due(later + " alone", later, () -> check(b, direction, r, c));
    }

    private void beyondTheBoard(int direction) {
        for (int length = 2; length <= SIDE; length++) {
            String word = "abcdefg".substring(0, length);
            TileWordBoard b = withText(board(word), word);
            for (int place = 0; place < SIDE * SIDE; place++) {
                int r = place / SIDE;
                int c = place % SIDE;
                int due = c + length > SIDE ? 2 : 6;
                checks.due(word + " from " + r + ", " + c, due, () -> check(b, direction, r, c));
            }
        }
    }

    /** The rack is empty: where condition 3 holds it is condition 6 that does not. */
    private void tilesBeforeAndBehind(int direction) {
        for (int c = 0; c + 3 <= SIDE; c++) {
            int start = c;
            for (int place = 0; place < SIDE * SIDE; place++) {
                int tile = place;
                TileWordBoard b = laid(direction, "" + tile / SIDE + tile % SIDE + "b", "", "bbb");
                text(b, "bbb");
                boolean isAtAnEnd = tile == 2 * SIDE + start - 1 && start > 0
                        || tile == 2 * SIDE + start + 3 && start + 3 < SIDE;
                checks.due("bbb from 2, " + start + " with a tile on " + tile, isAtAnEnd ? 3 : 6,
                        () -> check(b, direction, 2, start));
            }
        }
    }

    private void tilesOfTheWord(int direction) {
        String word = "abcdefg";
        for (int place = 0; place < SIDE; place++) {
            int p = place;
            char sign = word.charAt(p);
            char other = (char) (sign + 1);
            TileWordBoard b = laid(direction, "3" + p + other, "", word);
            text(b, word);
            checks.due("another tile on place " + p, 4, () -> check(b, direction, 3, 0));
            lay(b, direction, "3" + p + sign);
            checks.due("the same tile on place " + p, 6, () -> check(b, direction, 3, 0));
            for (int k = 0; k < SIDE; k++) {
                lay(b, direction, "3" + k + word.charAt(k));
            }
            checks.due("all tiles are there", 5, () -> check(b, direction, 3, 0));
            int row = direction == 0 ? 3 : p;
            int column = direction == 0 ? p : 3;
            b.setTile(row, column, NONE);
            rack(b, 0, "" + sign);
            text(b, word);
            checks.due("all but place " + p, 0, () -> check(b, direction, 3, 0));
            rack(b, 0, "" + other);
            text(b, word);
            checks.due("another letter on the rack", 6, () -> check(b, direction, 3, 0));
        }
    }

    private void tilesOfTheRack(int direction) {
        rackFor(direction, 0, "aabba", "aaabb", "");
        rackFor(direction, 6, "aabba", "aabbb", "");
        rackFor(direction, 6, "aabba", "aabb", "");
        rackFor(direction, 6, "aabba", "aabb", "00a");
        rackFor(direction, 0, "aabba", "aabb", "33a");
        rackFor(direction, 6, "aabba", "aabb", "34b");
        rackFor(direction, 0, "aaaaa", "aaaaa", "");
        rackFor(direction, 6, "aaaaa", "aaaa", "");
        rackFor(direction, 0, "aaaaa", "aaaa", "36a");
        rackFor(direction, 6, "abcdef", "abcde", "");
        rackFor(direction, 0, "abcdef", "abcde", "36f");
        rackFor(direction, 0, "abcdef", "bcdef", "31a");
        rackFor(direction, 6, "hg", "h", "");
        rackFor(direction, 0, "hg", "hg", "");
    }

    /** The word so that its third letter lies on the centre, or its last one. */
    private void rackFor(int direction, int due, String word, String rack, String tiles) {
        int start = word.length() < 3 ? 2 : word.length() < 6 ? 2 : 1;
        TileWordBoard b = laid(direction, tiles, rack, word);
        text(b, word);
        checks.due(word + " of " + rack + " with " + tiles, due,
                () -> check(b, direction, 3, start));
    }

    private void firstPlay(int direction) {
        for (int length = 2; length <= 5; length++) {
            String word = "aaaaa".substring(0, length);
            TileWordBoard b = laid(direction, "", "aaaaa", word);
            text(b, word);
            for (int place = 0; place < SIDE * SIDE; place++) {
                int r = place / SIDE;
                int c = place % SIDE;
                boolean covers = r == 3 && c <= 3 && c + word.length() > 3;
                int due = c + word.length() > SIDE ? 2 : covers ? 0 : 7;
                checks.due("first play of " + word + " from " + r + ", " + c, due,
                        () -> check(b, direction, r, c));
            }
        }
    }

    /** With one tile on the board and all words of a alone, so that no cross word is refused. */
    private void connection(int direction) {
        for (int tile = 0; tile < SIDE * SIDE; tile++) {
            int row = tile / SIDE;
            int column = tile % SIDE;
            for (int length = 2; length <= 3; length++) {
                int l = length;
                TileWordBoard b = laid(direction, "" + row + column + "a", "aaa", "aa", "aaa");
                text(b, "aaa".substring(0, l));
                for (int place = 0; place < SIDE * SIDE; place++) {
                    int r = place / SIDE;
                    int c = place % SIDE;
                    boolean beside = column >= c && column < c + l;
                    boolean atAnEnd = row == r && (column == c - 1 || column == c + l);
                    int due = c + l > SIDE ? 2 : atAnEnd ? 3
                            : beside && Math.abs(row - r) <= 1 ? 0 : 7;
                    checks.due(l + " letters from " + r + ", " + c + ", a tile on " + tile, due,
                            () -> check(b, direction, r, c));
                }
            }
        }
    }

    private void crossWords(int direction) {
        cross(direction, 0, "23c", "ab", "ca");
        cross(direction, 8, "23c", "ab", "ac");
        cross(direction, 0, "43c", "ab", "ac");
        cross(direction, 8, "43c", "ab", "ca");
        cross(direction, 0, "23c 43d", "ab", "cad");
        cross(direction, 8, "23c 43d", "ab", "ca", "ad");
        cross(direction, 8, "23c 24c", "ab", "ca");
        cross(direction, 8, "23c 24c", "ab", "cb");
        cross(direction, 0, "23c 24c", "ab", "ca", "cb");
        cross(direction, 0, "03d 23c", "ab", "ca");
        cross(direction, 0, "23c 53d", "ab", "ca");
        cross(direction, 0, "13d 23c", "ab", "dca");
        cross(direction, 8, "13d 23c", "ab", "ca");
        cross(direction, 0, "03a 13b 23c 43e 53f 63g", "ab", "abcaefg");
        cross(direction, 8, "03a 13b 23c 43e 53f 63g", "ab", "abcaef");
        cross(direction, 8, "03a 13b 23c 43e 53f 63g", "ab", "bcaefg");
        cross(direction, 0, "03a 13b 23c", "ab", "abca");
        cross(direction, 0, "43c 53d 63e", "ab", "acde");
        cross(direction, 0, "33a 23h 43h", "ab");
        cross(direction, 0, "34b 24h", "ab");
        cross(direction, 0, "22h 25h 42h 45h 33a", "ab");
    }

    /** A play of ab from the centre on. */
    private void cross(int direction, int due, String tiles, String... words) {
        TileWordBoard b = laid(direction, tiles, "ab", words);
        text(b, "ab");
        checks.due("cross words with " + tiles, due, () -> check(b, direction, 3, 3));
    }

    private static int letterFactor(int premium) {
        return premium == 1 ? 2 : premium == 2 ? 3 : 1;
    }

    private static int wordFactor(int premium) {
        return premium == 3 ? 2 : premium == 4 ? 3 : 1;
    }

    private static void premium(TileWordBoard board, int direction, int r, int c, int premium) {
        board.setPremium(direction == 0 ? r : c, direction == 0 ? c : r, premium);
    }

    private static int play(TileWordBoard board, int direction, int r, int c) {
        return board.play(0, direction, direction == 0 ? r : c, direction == 0 ? c : r);
    }

    /** The word abc over each three premiums, once all new and once with the tile b there. */
    private void pointsOfTheWord(int direction) {
        for (int all = 0; all < 125; all++) {
            int[] p = {all / 25, all / 5 % 5, all % 5};
            TileWordBoard b = laid(direction, "", "abc", "abc");
            b.setLetter(1, 4, 3);
            b.setLetter(2, 10, 3);
            for (int k = 0; k < 3; k++) {
                premium(b, direction, 3, 2 + k, p[k]);
            }
            text(b, "abc");
            int ends = letterFactor(p[0]) + 10 * letterFactor(p[2]);
            int factor = wordFactor(p[0]) * wordFactor(p[2]);
            checks.due("abc over " + all, (ends + 4 * letterFactor(p[1])) * factor
                    * wordFactor(p[1]), () -> play(b, direction, 3, 2));
            b.undo();
            lay(b, direction, "33b");
            text(b, "abc");
            checks.due("abc over " + all + ", b is there", (ends + 4) * factor,
                    () -> play(b, direction, 3, 2));
        }
    }

    /** The word ab below c and above d, over each two premiums; one lies under the tile c too. */
    private void pointsOfACrossWord(int direction) {
        for (int all = 0; all < 125; all++) {
            int p = all / 25;
            int q = all / 5 % 5;
            TileWordBoard b = laid(direction, "23c 44d", "ab", "ab", "ca", "bd");
            b.setLetter(0, 2, 0);
            b.setLetter(1, 3, 0);
            b.setLetter(2, 5, 0);
            b.setLetter(3, 7, 0);
            premium(b, direction, 3, 3, p);
            premium(b, direction, 3, 4, q);
            premium(b, direction, 2, 3, all % 5);
            text(b, "ab");
            int word = (2 * letterFactor(p) + 3 * letterFactor(q)) * wordFactor(p) * wordFactor(q);
            int first = (5 + 2 * letterFactor(p)) * wordFactor(p);
            int second = (7 + 3 * letterFactor(q)) * wordFactor(q);
            checks.due("ab with cross words over " + all, word + first + second,
                    () -> play(b, direction, 3, 3));
        }
    }

    private void bonus(int direction) {
        for (int length = 2; length <= SIDE; length++) {
            String word = "aaaaaaa".substring(0, length);
            for (int there = 0; there < length; there++) {
                int laid = length - there;
                if (laid <= 5) {
                    TileWordBoard b = laid(direction, "", "aaaaa", word);
                    for (int k = 0; k < there; k++) {
                        lay(b, direction, "3" + k + "a");
                    }
                    int start = there == 0 ? SIDE - Math.max(4, word.length()) : 0;
                    premium(b, direction, 3, start + there, 4);
                    text(b, word);
                    checks.due(laid + " new tiles of " + word,
                            word.length() * 3 + (laid == 5 ? 20 : 0),
                            () -> play(b, direction, 3, start));
                }
            }
        }
        TileWordBoard b = laid(direction, "21a 22a 23a 24a 25a", "aaaaa", "aa", "aaaaa");
        text(b, "aaaaa");
        checks.due("five cross words and 20 once", 5 + 5 * 2 + 20, () -> play(b, direction, 3, 1));
    }

    private void crossSets(int direction) {
        crossSet(direction, 255, "", "ab");
        crossSet(direction, 131, "23c", "ca", "cb", "ch", "ac", "cac", "ccccccc");
        crossSet(direction, 129, "43c", "ac", "hc", "ca", "ach");
        crossSet(direction, 10, "23c 43c", "cbc", "cdc", "bc", "ca", "cccc");
        crossSet(direction, 0, "23c", "ac", "cad");
        crossSet(direction, 0, "23c");
        crossSet(direction, 255, "23c", "ca", "cb", "cc", "cd", "ce", "cf", "cg", "ch");
        crossSet(direction, 127, "23c", "ca", "cb", "cc", "cd", "ce", "cf", "cg");
        crossSet(direction, 255, "13c 53c", "ca");
        crossSet(direction, 255, "32c 34c 22c 24c 42c 44c", "ca");
        crossSet(direction, 64, "03a 13b 23c 43d 53e 63f", "abcgdef", "abch", "hdef");
        crossSet(direction, 16, "03a 13b 23c", "abce", "abcde", "bcd", "cd");
        crossSet(direction, 16, "43a 53b 63c", "eabc", "deabc", "dab", "da");
        crossSet(direction, 32, "03a 23c 53h", "cf", "acf", "cfh");
        crossSet(direction, 0, "33c 23c", "cc", "ca");
    }

    /** Of the centre. */
    private void crossSet(int direction, int due, String tiles, String... words) {
        TileWordBoard b = laid(direction, tiles, "", words);
        checks.due("cross set with " + tiles, due, () -> b.crossSet(3, 3, direction));
    }

    /** Without words: 0 beside a tile, 255 where there is none, with no step over an edge. */
    private void neighboursAcrossTheEdge() {
        for (int tile = 0; tile < SIDE * SIDE; tile++) {
            int row = tile / SIDE;
            int column = tile % SIDE;
            TileWordBoard b = new TileWordBoard();
            b.setTile(row, column, 0);
            for (int place = 0; place < SIDE * SIDE; place++) {
                int r = place / SIDE;
                int c = place % SIDE;
                boolean above = column == c && Math.abs(row - r) <= 1;
                boolean beside = row == r && Math.abs(column - c) <= 1;
                checks.due("cross set of " + place + ", word across, tile on " + tile,
                        above ? 0 : 255, () -> b.crossSet(r, c, 0));
                checks.due("cross set of " + place + ", word down, tile on " + tile,
                        beside ? 0 : 255, () -> b.crossSet(r, c, 1));
            }
        }
    }

    /** Boards with many kinds of plays. */
    private static TileWordBoard game(int number) {
        String[] words = WORDS_OF_GAMES[number];
        switch (number) {
            case 0:
                return laid(0, "", "abc", words);
            case 1:
                return laid(0, "33a 34b", "abca", words);
            case 2:
                return laid(0, "22a 33a", "aa", words);
            case 3:
                return laid(0, "00a 66b 06a 60b", "ab", words);
            case 4:
                return laid(0, "30a 31b 32a 33b 34a 35b", "abb", words);
            default:
                return laid(1, "23a 33b 43c 34a", "abcab", words);
        }
    }

    private static TileWordBoard settled(int number) {
        TileWordBoard board = game(number);
        board.setLetter(0, 2, -20);
        board.setLetter(1, 3, 20);
        board.setLetter(2, 7, 1);
        board.setPremium(3, 3, 3);
        board.setPremium(2, 3, 1);
        board.setPremium(4, 4, 2);
        board.setPremium(5, 6, 4);
        return board;
    }

    /** Each play that check does not refuse is in the list, in the order of the document. */
    private void listHoldsEachPlay() {
        int all = 0;
        for (int number = 0; number < WORDS_OF_GAMES.length; number++) {
            int n = number;
            boolean[] good = new boolean[196];
            TileWordBoard b = settled(n);
            for (int word = 0; word < 2; word++) {
                text(b, WORDS_OF_GAMES[n][word]);
                for (int start = 0; start < 98; start++) {
                    good[start * 2 + word] = b.check(0, start / 49, start / SIDE % SIDE,
                            start % SIDE) == 0;
                }
            }
            int count = 0;
            for (int play = 0; play < good.length; play++) {
                if (good[play]) {
                    listed(n, count, play / 2, play % 2);
                    count++;
                }
            }
            int due = count;
            checks.due("plays of game " + n, due, () -> b.plays(0));
            checks.index("a play behind the last", () -> b.playAt(0, due, 0));
            all += count;
        }
        checks.due("the games have plays", "true", "" + (all > 60));
    }

    /** A play of the list, its score when it is made, and its equity. */
    private void listed(int game, int index, int start, int word) {
        int[] place = {start / 49, start / SIDE % SIDE, start % SIDE};
        TileWordBoard b = settled(game);
        TileWordBoard made = settled(game);
        text(made, WORDS_OF_GAMES[game][word]);
        int score = made.play(0, place[0], place[1], place[2]);
        int equity = score - 20 * made.onRack(0, 0) + 20 * made.onRack(0, 1) + made.onRack(0, 2);
        checks.due("play " + index + " of game " + game, place[0] + " " + place[1] + " " + place[2]
                + " " + word + " " + score + " " + equity, described(b, 0, index));
        checks.due("its points are added", score, () -> made.score(0));
    }

    private void equity() {
        int[] leaves = {-20, 20, -19, 19, 0, 1, -1, 7};
        for (int letter = 0; letter < 8; letter++) {
            int l = letter;
            TileWordBoard b = board("ab");
            for (int k = 0; k < 8; k++) {
                b.setLetter(k, 1, leaves[k]);
            }
            for (int count = 0; count <= 3; count++) {
                int rest = count;
                StringBuilder tiles = new StringBuilder("ab");
                for (int k = 0; k < rest; k++) {
                    tiles.append((char) ('a' + l));
                }
                rack(b, 0, tiles.toString());
                checks.due(rest + " tiles " + l + " stay", 2 + rest * leaves[l],
                        () -> b.playAt(0, 0, 5));
            }
        }
    }

    private void bestOfEqualOnes() {
        for (int number = 0; number < WORDS_OF_GAMES.length; number++) {
            bestOf(game(number), "game " + number);
            bestOf(settled(number), "settled game " + number);
        }
    }

    private void bestOf(TileWordBoard board, String what) {
        int best = NONE;
        int count = board.plays(0);
        for (int index = 0; index < count; index++) {
            if (best == NONE || board.playAt(0, index, 5) > board.playAt(0, best, 5)) {
                best = index;
            }
        }
        int due = best;
        checks.due("best play of " + what, due, () -> board.bestPlay(0));
        int score = board.playAt(0, due, 4);
        int[] start = {board.playAt(0, due, 1), board.playAt(0, due, 2)};
        checks.due("it is made", score, () -> board.playBest(0));
        checks.due("its first square", "false",
                "" + (board.tileAt(start[0], start[1]) == NONE));
    }

    private void anchors() {
        TileWordBoard b = new TileWordBoard();
        String[] tiles = {"00a", "01a", "10a", "11a", "66a", "33a", "35a", "53a", "44a", "34a"};
        int[] due = {2, 3, 3, 4, 6, 10, 13, 16, 16, 16};
        for (int k = 0; k < tiles.length; k++) {
            lay(b, 0, tiles[k]);
            checks.due("anchors with " + tiles[k] + " too", due[k], () -> b.anchors());
        }
        for (String tile : tiles) {
            b.setTile(tile.charAt(0) - '0', tile.charAt(1) - '0', NONE);
        }
        checks.due("anchors when all tiles are away", 1, () -> b.anchors());
        checks.due("the centre", 1, () -> b.isAnchor(3, 3) ? 1 : 0);
        b.setTile(0, 0, 0);
        checks.due("the centre of a board with a tile", 0, () -> b.isAnchor(3, 3) ? 1 : 0);
    }

    /** Two players with a tile a in a corner; g is worth 5 and h 7. */
    private static TileWordBoard ending(String rack, String other, String... words) {
        TileWordBoard board = laid(0, "00a", rack, words);
        board.setLetter(6, 5, 20);
        board.setLetter(7, 7, -20);
        rack(board, 1, other);
        return board;
    }

    private void endgameOf(String what, TileWordBoard board, int first, int second) {
        checks.due(what + ", player 0 first", first, () -> board.endgame(0));
        checks.due(what + ", player 1 first", second, () -> board.endgame(1));
    }

    private void endgameEnds() {
        endgameOf("two empty racks", ending("", "", "ab"), 0, 0);
        endgameOf("an empty rack of player 0", ending("", "ggh"), 34, -34);
        endgameOf("an empty rack of player 1", ending("ggh", ""), -34, 34);
        endgameOf("an empty rack, the other could play", ending("", "bg", "ab"), 12, -12);
        endgameOf("an empty rack, the other could play", ending("b", "", "ab"), -2, 2);
        endgameOf("two passes", ending("ggh", "g"), 5 - 17, 17 - 5);
        endgameOf("two passes with equal racks", ending("gh", "hg"), 0, 0);
        endgameOf("a play lays all tiles", ending("b", "gh", "ab"), 2 + 24, -26);
        endgameOf("the other one's play lays all tiles", ending("gh", "b", "ab"), -26, 26);
        endgameOf("who is first lays all tiles", ending("b", "c", "ab", "ac"), 4, 4);
        endgameOf("a play that leaves a tile", ending("bg", "h", "ab"), 2 - 5 + 7, -4);
        TileWordBoard five = ending("abcde", "h", "abcde");
        five.setTile(0, 0, NONE);
        endgameOf("five tiles at once on an empty board", five, 25 + 14, -39);
    }

    /** Passes that are not in a row end nothing, and a pass may be better than a play. */
    private void endgamePasses() {
        endgameOf("player 1 plays ab and abc", ending("e", "bcd", "ab", "abc"), -5, 5);
        endgameOf("player 0 plays ab and abc", ending("bcd", "e", "ab", "abc"), 5, -5);
        endgameOf("ab would open abc for the other", ending("cd", "bd", "ab", "abc"), 0, 0);
        TileWordBoard dear = ending("cd", "bd", "ab", "abc");
        dear.setLetter(1, 5, 0);
        endgameOf("but b is dear to keep", dear, 1, -1);
    }

    private void endgameCountsFromNow() {
        TileWordBoard b = board("ab", "ba");
        rack(b, 0, "ab");
        rack(b, 1, "ab");
        b.setPremium(3, 3, 4);
        b.playBest(1);
        rack(b, 0, "b");
        rack(b, 1, "gg");
        checks.due("player 1 has points", 6, () -> b.score(1));
        TileWordBoard c = laid(0, "32a 33b", "b", "ab", "ba");
        rack(c, 1, "gg");
        checks.due("the same tiles without points", c.endgame(0), () -> b.endgame(0));
        checks.due("and for the other player", c.endgame(1), () -> b.endgame(1));
        checks.due("ab down at the a, and twice two", 6, () -> b.endgame(0));
    }

    /** Counted with ReferenceBoard, whose search was let go on beyond 400 positions. */
    private void endgamePositions() {
        endgameOf("399 positions", withRacks("24b 12b", "ab", "bca", "bb"), 1, -1);
        endgameOf("399 positions", withRacks("66b 23a", "bba", "abb", "bb"), 0, 0);
        endgameOf("400 positions", withRacks("24b 06b", "abb", "ab", "ba"), -2, 10);
        endgameOf("400 positions", withRacks("21b", "aaa", "bbb", "ba", "ab"), 3, -3);
        tooLong("401 positions", () -> withRacks("50a 11a", "aab", "bb", "bbb", "ba"));
        tooLong("401 positions", () -> withRacks("13c 01a", "bbb", "ccb", "aa", "cb"));
        tooLong("402 positions", () -> withRacks("05c", "abc", "cc", "bac", "bc", "cc"));
        tooLong("402 positions", () -> withRacks("15c 46c", "ba", "ca", "abc", "cc", "ca"));
        tooLong("403 positions", () -> withRacks("", "baa", "aab", "bb", "ab"));
    }

    private static TileWordBoard withRacks(String tiles, String rack, String other,
            String... words) {
        TileWordBoard board = laid(0, tiles, rack, words);
        rack(board, 1, other);
        return board;
    }

    private void tooLong(String what, Setup setup) {
        state(what + ", player 0 first", setup, b -> b.endgame(0));
        state(what + ", player 1 first", setup, b -> b.endgame(1));
    }
}
