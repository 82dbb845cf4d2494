/**
 * An engine for a word game with letter tiles on a board of 7 rows and 7 columns.
 *
 * <p>Words, racks, starts and plays are held as numbers and the saved states are used again, so
 * that no call but the first saves makes an object, beside the exceptions.
 */
public final class TileWordBoard {
    public static final int NONE = -1;

    private static final int PLAYERS = 2;
    private static final int LETTERS = 8;
    private static final int SIDE = 7;
    private static final int HIGHEST_VALUE = 10;
    private static final int HIGHEST_LEAVE = 20;
    private static final int HIGHEST_PREMIUM = 4;
    private static final int SHORTEST_WORD = 2;
    private static final int MOST_ON_RACK = 5;
    private static final int HIGHEST_WHAT = 5;

    private int text;
    private final Table table;
    private final Rules rules;
    private final Endgame search;
    private final History history;

    public TileWordBoard() {
        text = Word.EMPTY;
        table = new Table();
        rules = new Rules(table);
        search = new Endgame(table, rules);
        history = new History();
    }

    public int type(int letter) throws IllegalArgumentException, IllegalStateException {
        requireLetter(letter);
        if (Word.length(text) >= Word.LONGEST) {
            throw new IllegalStateException("the text is full");
        }
        text = Word.append(text, letter);
        return Word.length(text);
    }

    public int clearText() {
        int length = Word.length(text);
        text = Word.EMPTY;
        return length;
    }

    public int addWord() throws IllegalStateException {
        if (Word.length(text) < SHORTEST_WORD) {
            throw new IllegalStateException("the text is too short for a word");
        }
        if (table.words.isFull()) {
            throw new IllegalStateException("the dictionary is full");
        }
        history.save(table);
        table.words.add(text);
        text = Word.EMPTY;
        return table.words.size();
    }

    public int lookUp() {
        return table.words.numberOf(text);
    }

    public int setLetter(int letter, int value, int leave) throws IllegalArgumentException {
        requireLetter(letter);
        if (value < 1 || value > HIGHEST_VALUE) {
            throw new IllegalArgumentException("value is out of range");
        }
        if (leave < -HIGHEST_LEAVE || leave > HIGHEST_LEAVE) {
            throw new IllegalArgumentException("leave is out of range");
        }
        history.save(table);
        int previous = table.value(letter);
        table.changeLetter(letter, value, leave);
        return previous;
    }

    public int setPremium(int row, int column, int premium)
            throws IndexOutOfBoundsException, IllegalArgumentException {
        requireSquare(row, column);
        if (premium < 0 || premium > HIGHEST_PREMIUM) {
            throw new IllegalArgumentException("premium is out of range");
        }
        history.save(table);
        int square = Start.squareOf(row, column);
        int previous = table.board.premium(square);
        table.board.changePremium(square, premium);
        return previous;
    }

    public int setRack(int player) throws IndexOutOfBoundsException, IllegalStateException {
        requirePlayer(player);
        int length = Word.length(text);
        if (length > MOST_ON_RACK) {
            throw new IllegalStateException("the text is too long for a rack");
        }
        history.save(table);
        table.changeRack(player, Rack.of(text));
        text = Word.EMPTY;
        return length;
    }

    public int setTile(int row, int column, int letter)
            throws IndexOutOfBoundsException, IllegalArgumentException {
        requireSquare(row, column);
        if (letter != NONE) {
            requireLetter(letter);
        }
        history.save(table);
        int square = Start.squareOf(row, column);
        int previous = table.board.letter(square);
        table.board.put(square, letter);
        return previous;
    }

    public int tileAt(int row, int column) throws IndexOutOfBoundsException {
        requireSquare(row, column);
        return table.board.letter(Start.squareOf(row, column));
    }

    public int onRack(int player, int letter)
            throws IndexOutOfBoundsException, IllegalArgumentException {
        requirePlayer(player);
        requireLetter(letter);
        return Rack.count(table.rack(player), letter);
    }

    public int score(int player) throws IndexOutOfBoundsException {
        requirePlayer(player);
        return table.points(player);
    }

    public int crossSet(int row, int column, int direction)
            throws IndexOutOfBoundsException, IllegalArgumentException {
        requireSquare(row, column);
        requireDirection(direction);
        return rules.crossLetters(Start.of(direction, row, column));
    }

    public int anchors() {
        return Long.bitCount(table.board.anchorSquares());
    }

    public boolean isAnchor(int row, int column) throws IndexOutOfBoundsException {
        requireSquare(row, column);
        return ((table.board.anchorSquares() >>> Start.squareOf(row, column)) & 1L) != 0L;
    }

    public int check(int player, int direction, int row, int column)
            throws IndexOutOfBoundsException, IllegalArgumentException {
        requirePlayer(player);
        requireSquare(row, column);
        requireDirection(direction);
        return rules.refusal(player, Start.of(direction, row, column), lookUp());
    }

    public int play(int player, int direction, int row, int column)
            throws IndexOutOfBoundsException, IllegalArgumentException, IllegalStateException {
        requirePlayer(player);
        requireSquare(row, column);
        requireDirection(direction);
        int start = Start.of(direction, row, column);
        int number = lookUp();
        if (rules.refusal(player, start, number) != 0) {
            throw new IllegalStateException("the play is refused");
        }
        text = Word.EMPTY;
        return makePlay(player, Start.withWord(start, number));
    }

    public int plays(int player) throws IndexOutOfBoundsException {
        requirePlayer(player);
        return rules.countPlays(player);
    }

    public int playAt(int player, int index, int what)
            throws IndexOutOfBoundsException, IllegalArgumentException {
        requirePlayer(player);
        int play = rules.playNumbered(player, index);
        if (play == NONE) {
            throw new IndexOutOfBoundsException("no such play");
        }
        if (what < 0 || what > HIGHEST_WHAT) {
            throw new IllegalArgumentException("what is out of range");
        }
        int start = Start.ofPlay(play);
        switch (what) {
            case 0: return Start.direction(start);
            case 1: return Start.row(start);
            case 2: return Start.column(start);
            case 3: return Start.wordOfPlay(play);
            case 4: return rules.pointsOf(play);
            default: return rules.equityOf(player, play);
        }
    }

    public int bestPlay(int player) throws IndexOutOfBoundsException {
        requirePlayer(player);
        return rules.indexOfBest(player);
    }

    public int playBest(int player) throws IndexOutOfBoundsException, IllegalStateException {
        requirePlayer(player);
        int play = rules.playNumbered(player, rules.indexOfBest(player));
        if (play == NONE) {
            throw new IllegalStateException("there is no play");
        }
        return makePlay(player, play);
    }

    public int endgame(int player) throws IndexOutOfBoundsException, IllegalStateException {
        requirePlayer(player);
        search.begin();
        int result = search.bestDifference(player, 0, 0);
        if (search.hasFailed()) {
            throw new IllegalStateException("the search would visit too many positions");
        }
        return result;
    }

    public int undo() throws IllegalStateException {
        if (history.size() == 0) {
            throw new IllegalStateException("there is no saved state");
        }
        history.restore(table);
        return history.size();
    }

    public long digest() {
        long hash = hashWord(2803L, text);
        for (int letter = 0; letter < LETTERS; letter++) {
            hash = 31L * hash + table.value(letter);
            hash = 31L * hash + table.leave(letter);
        }
        hash = hashDictionary(hash);
        for (int row = 0; row < SIDE; row++) {
            for (int column = 0; column < SIDE; column++) {
                int square = Start.squareOf(row, column);
                hash = 31L * hash + table.board.letter(square);
                hash = 31L * hash + table.board.premium(square);
            }
        }
        for (int player = 0; player < PLAYERS; player++) {
            hash = hashRack(hash, table.rack(player));
            hash = 31L * hash + table.points(player);
            hash = 31L * hash + rules.countPlays(player);
        }
        hash = 31L * hash + anchors();
        return 31L * hash + history.size();
    }

    private static long hashWord(long before, int word) {
        int length = Word.length(word);
        long hash = 31L * before + length;
        for (int place = 0; place < length; place++) {
            hash = 31L * hash + Word.letter(word, place);
        }
        return hash;
    }

    private long hashDictionary(long before) {
        int size = table.words.size();
        long hash = 31L * before + size;
        for (int number = 0; number < size; number++) {
            hash = hashWord(hash, table.words.word(number));
        }
        return hash;
    }

    private static long hashRack(long before, int rack) {
        long hash = before;
        for (int letter = 0; letter < LETTERS; letter++) {
            hash = 31L * hash + Rack.count(rack, letter);
        }
        return hash;
    }

    private int makePlay(int player, int play) {
        history.save(table);
        int points = rules.pointsOf(play);
        rules.lay(player, play);
        table.addPoints(player, points);
        return points;
    }

    private static boolean isLetter(int letter) {
        return letter >= 0 && letter < LETTERS;
    }

    private static boolean isPlayer(int player) {
        return player >= 0 && player < PLAYERS;
    }

    private static void requireLetter(int letter) {
        if (!isLetter(letter)) {
            throw new IllegalArgumentException("letter is out of range");
        }
    }

    private static void requirePlayer(int player) {
        if (!isPlayer(player)) {
            throw new IndexOutOfBoundsException("no such player");
        }
    }

    private static void requireSquare(int row, int column) {
        if (row < 0 || row >= SIDE || column < 0 || column >= SIDE) {
            throw new IndexOutOfBoundsException("no such square");
        }
    }

    private static void requireDirection(int direction) {
        if (direction != 0 && direction != 1) {
            throw new IllegalArgumentException("direction is neither 0 nor 1");
        }
    }

    /**
     * Words of up to 7 letters, each held in one number: 3 bits a letter from the left, and the
     * length in the last 3 bits. The numbers stand in alphabetical order: where a word has no
     * letter its bits are those of an a, and among words that are the same then the length, in
     * the lowest bits, puts a beginning before the words that go on.
     */
    private static final class Word {
        static final int EMPTY = 0;
        static final int LONGEST = 7;

        private Word() {
        }

        static int length(int word) {
            return word & 7;
        }

        static int letter(int word, int place) {
            return (word >>> (3 * (LONGEST - place))) & 7;
        }

        static int append(int word, int letter) {
            int length = word & 7;
            if (length >= LONGEST) {
                return word;
            }
            return (word + 1) | (letter << (3 * (LONGEST - length)));
        }
    }

    /** Racks, each held in one number: 4 bits a letter for the number of its tiles. */
    private static final class Rack {
        static final int EMPTY = 0;

        private Rack() {
        }

        static int of(int word) {
            int rack = EMPTY;
            int length = Word.length(word);
            for (int place = 0; place < length; place++) {
                rack += oneTile(Word.letter(word, place));
            }
            return rack;
        }

        static int count(int rack, int letter) {
            return (rack >>> (4 * letter)) & 15;
        }

        static int without(int rack, int letter) {
            return rack - oneTile(letter);
        }

        private static int oneTile(int letter) {
            return 1 << (4 * letter);
        }
    }

    /**
     * Squares, starts and plays as numbers. A square is row * 8 + column; a start is
     * direction * 64 + square; a play is start * 32 + number of the word: so the plays of a list
     * stand in the order of their numbers. The eighth column is no part of the board and never
     * has a tile: a step over an edge of the board finds an empty place and needs no case of its
     * own.
     */
    private static final class Start {
        static final int PLACES = 64;
        static final int STARTS = 128;
        static final int PLAYS = 4096;

        private static final int DOWN = 8;
        private static final long FIRST_COLUMN = 0x0101010101010101L;

        private Start() {
        }

        static int squareOf(int row, int column) {
            return row * DOWN + column;
        }

        static int of(int direction, int row, int column) {
            return direction * PLACES + row * DOWN + column;
        }

        static int withWord(int start, int number) {
            return start * 32 + number;
        }

        static int ofPlay(int play) {
            return play >> 5;
        }

        static int wordOfPlay(int play) {
            return play & 31;
        }

        static int direction(int start) {
            return start >> 6;
        }

        static int square(int start) {
            return start & 63;
        }

        static int row(int start) {
            return (start >> 3) & 7;
        }

        static int column(int start) {
            return start & 7;
        }

        static int step(int start) {
            return start < PLACES ? 1 : DOWN;
        }

        static int crossStep(int start) {
            return start < PLACES ? DOWN : 1;
        }

        static boolean isOnBoard(int start) {
            return row(start) < SIDE && column(start) < SIDE;
        }

        static int room(int start) {
            return SIDE - (start < PLACES ? column(start) : row(start));
        }

        /** The squares of a word as bits; the word must have room. */
        static long squares(int start, int length) {
            long fromCorner = start < PLACES
                    ? (1L << length) - 1L
                    : FIRST_COLUMN & ((1L << (DOWN * length)) - 1L);
            return fromCorner << (start & 63);
        }
    }

    /** The words in alphabetical order. */
    private static final class Dictionary {
        private static final int MOST_WORDS = 30;

        private final int[] words;
        private int count;

        Dictionary() {
            words = new int[MOST_WORDS];
            count = 0;
        }

        int size() {
            return count;
        }

        boolean isFull() {
            return count >= MOST_WORDS;
        }

        int word(int number) {
            return number >= 0 && number < count ? words[number] : Word.EMPTY;
        }

        int numberOf(int word) {
            for (int number = 0; number < count; number++) {
                if (words[number] == word) {
                    return number;
                }
            }
            return NONE;
        }

        void add(int word) {
            if (isFull() || numberOf(word) != NONE) {
                return;
            }
            int place = count;
            while (place > 0 && words[place - 1] > word) {
                words[place] = words[place - 1];
                place--;
            }
            words[place] = word;
            count++;
        }

        void copyFrom(Dictionary other) {
            System.arraycopy(other.words, 0, words, 0, MOST_WORDS);
            count = other.count;
        }
    }

    /** The tiles and premiums; a place's letter counts only while its bit is set in occupied. */
    private static final class Board {
        private static final long ALL_SQUARES = 0x007F7F7F7F7F7F7FL;
        private static final long CENTRE = 1L << 27;

        private final int[] letters;
        private final int[] premiums;
        private long occupied;

        Board() {
            letters = new int[Start.PLACES];
            premiums = new int[Start.PLACES];
            occupied = 0L;
        }

        boolean hasTile(int square) {
            return square >= 0 && square < Start.PLACES && ((occupied >>> square) & 1L) != 0L;
        }

        int letter(int square) {
            return hasTile(square) ? letters[square] : NONE;
        }

        int premium(int square) {
            return square >= 0 && square < Start.PLACES ? premiums[square] : 0;
        }

        void changePremium(int square, int premium) {
            if (square >= 0 && square < Start.PLACES) {
                premiums[square] = premium;
            }
        }

        void put(int square, int letter) {
            if (square < 0 || square >= Start.PLACES) {
                return;
            }
            if (letter == NONE) {
                takeAway(1L << square);
            } else {
                letters[square] = letter;
                occupied |= 1L << square;
            }
        }

        void takeAway(long squares) {
            occupied &= ~squares;
        }

        long emptyOf(long squares) {
            return squares & ~occupied;
        }

        /** Whether a word on the squares would lie on the centre of an empty board, or at a tile. */
        boolean connects(long squares, int crossStep) {
            if (occupied == 0L) {
                return (squares & CENTRE) != 0L;
            }
            long reached = occupied | (occupied << crossStep) | (occupied >>> crossStep);
            return (squares & reached) != 0L;
        }

        long anchorSquares() {
            if (occupied == 0L) {
                return CENTRE;
            }
            long besides = (occupied << 1) | (occupied >>> 1);
            long aboveOrBelow = (occupied << Start.DOWN) | (occupied >>> Start.DOWN);
            return emptyOf((besides | aboveOrBelow) & ALL_SQUARES);
        }

        /** The letter on an empty square with all tiles in one line with it; length 1 is no word. */
        int wordThrough(int square, int newLetter, int step) {
            int place = square;
            for (int steps = 0; steps < SIDE && hasTile(place - step); steps++) {
                place -= step;
            }
            int word = Word.EMPTY;
            for (int steps = 0; steps < SIDE && (place == square || hasTile(place)); steps++) {
                word = Word.append(word, place == square ? newLetter : letter(place));
                place += step;
            }
            return word;
        }

        void copyFrom(Board other) {
            System.arraycopy(other.letters, 0, letters, 0, Start.PLACES);
            System.arraycopy(other.premiums, 0, premiums, 0, Start.PLACES);
            occupied = other.occupied;
        }
    }

    /** All that a saved state holds. */
    private static final class Table {
        private final Dictionary words;
        private final Board board;
        private final int[] values;
        private final int[] leaves;
        private final int[] racks;
        private final int[] pointsOfPlayers;

        Table() {
            words = new Dictionary();
            board = new Board();
            values = new int[LETTERS];
            leaves = new int[LETTERS];
            racks = new int[PLAYERS];
            pointsOfPlayers = new int[PLAYERS];
            for (int letter = 0; letter < LETTERS; letter++) {
                values[letter] = 1;
            }
        }

        int value(int letter) {
            return isLetter(letter) ? values[letter] : 0;
        }

        int leave(int letter) {
            return isLetter(letter) ? leaves[letter] : 0;
        }

        void changeLetter(int letter, int value, int leave) {
            if (isLetter(letter)) {
                values[letter] = value;
                leaves[letter] = leave;
            }
        }

        int rack(int player) {
            return isPlayer(player) ? racks[player] : Rack.EMPTY;
        }

        void changeRack(int player, int rack) {
            if (isPlayer(player)) {
                racks[player] = rack;
            }
        }

        int points(int player) {
            return isPlayer(player) ? pointsOfPlayers[player] : 0;
        }

        void addPoints(int player, int points) {
            if (isPlayer(player)) {
                pointsOfPlayers[player] += points;
            }
        }

        int valueOfRack(int player) {
            int rack = rack(player);
            int sum = 0;
            for (int letter = 0; letter < LETTERS; letter++) {
                sum += Rack.count(rack, letter) * values[letter];
            }
            return sum;
        }

        int leaveOf(int rack) {
            int sum = 0;
            for (int letter = 0; letter < LETTERS; letter++) {
                sum += Rack.count(rack, letter) * leaves[letter];
            }
            return sum;
        }

        int valueOfWord(int word) {
            int sum = 0;
            int length = Word.length(word);
            for (int place = 0; place < length; place++) {
                sum += value(Word.letter(word, place));
            }
            return sum;
        }

        void copyFrom(Table other) {
            words.copyFrom(other.words);
            board.copyFrom(other.board);
            System.arraycopy(other.values, 0, values, 0, LETTERS);
            System.arraycopy(other.leaves, 0, leaves, 0, LETTERS);
            System.arraycopy(other.racks, 0, racks, 0, PLAYERS);
            System.arraycopy(other.pointsOfPlayers, 0, pointsOfPlayers, 0, PLAYERS);
        }
    }

    /** Which plays can be made on a table, in which order, and what they score. */
    private static final class Rules {
        private static final int TILES_FOR_BONUS = 5;
        private static final int BONUS = 20;

        private final Table table;

        Rules(Table table) {
            this.table = table;
        }

        /** The number of the first condition that a play violates; 0 if it can be made. */
        int refusal(int player, int start, int number) {
            if (number == NONE) {
                return 1;
            }
            int word = table.words.word(number);
            int length = Word.length(word);
            if (length > Start.room(start)) {
                return 2;
            }
            if (touchesTileAtAnEnd(start, length)) {
                return 3;
            }
            if (!agreesWithTiles(start, word)) {
                return 4;
            }
            if (!hasEmptySquare(start, length)) {
                return 5;
            }
            if (rackAfter(table.rack(player), start, word) == NONE) {
                return 6;
            }
            if (!isConnected(start, length)) {
                return 7;
            }
            return crossWordsAreWords(start, word) ? 0 : 8;
        }

        private boolean touchesTileAtAnEnd(int start, int length) {
            int first = Start.square(start);
            int step = Start.step(start);
            return table.board.hasTile(first - step) || table.board.hasTile(first + length * step);
        }

        private boolean agreesWithTiles(int start, int word) {
            int square = Start.square(start);
            int length = Word.length(word);
            for (int place = 0; place < length; place++) {
                int tile = table.board.letter(square);
                if (tile != NONE && tile != Word.letter(word, place)) {
                    return false;
                }
                square += Start.step(start);
            }
            return true;
        }

        private boolean hasEmptySquare(int start, int length) {
            return table.board.emptyOf(Start.squares(start, length)) != 0L;
        }

        private boolean isConnected(int start, int length) {
            return table.board.connects(Start.squares(start, length), Start.crossStep(start));
        }

        /** The rack without the tiles that the word needs; NONE if it has not got them. */
        private int rackAfter(int rack, int start, int word) {
            int left = rack;
            int square = Start.square(start);
            int length = Word.length(word);
            for (int place = 0; place < length; place++) {
                if (!table.board.hasTile(square)) {
                    int letter = Word.letter(word, place);
                    if (Rack.count(left, letter) == 0) {
                        return NONE;
                    }
                    left = Rack.without(left, letter);
                }
                square += Start.step(start);
            }
            return left;
        }

        private boolean crossWordsAreWords(int start, int word) {
            int square = Start.square(start);
            int length = Word.length(word);
            for (int place = 0; place < length; place++) {
                if (!table.board.hasTile(square)) {
                    int letter = Word.letter(word, place);
                    int cross = table.board.wordThrough(square, letter, Start.crossStep(start));
                    if (!mayStand(cross)) {
                        return false;
                    }
                }
                square += Start.step(start);
            }
            return true;
        }

        private boolean mayStand(int crossWord) {
            return Word.length(crossWord) == 1 || table.words.numberOf(crossWord) != NONE;
        }

        int crossLetters(int start) {
            int square = Start.square(start);
            int letters = 0;
            if (table.board.hasTile(square)) {
                return letters;
            }
            for (int letter = 0; letter < LETTERS; letter++) {
                if (mayStand(table.board.wordThrough(square, letter, Start.crossStep(start)))) {
                    letters |= 1 << letter;
                }
            }
            return letters;
        }

        /** The first play of the list that is not before the given one; NONE if there is none. */
        int nextPlay(int player, int from) {
            int size = table.words.size();
            int number = Start.wordOfPlay(from);
            for (int start = Start.ofPlay(from); start < Start.STARTS; start++) {
                int lengths = lengthsThatMayFit(start);
                for (; lengths != 0 && number < size; number++) {
                    int length = Word.length(table.words.word(number));
                    if (((lengths >> length) & 1) != 0 && refusal(player, start, number) == 0) {
                        return Start.withWord(start, number);
                    }
                }
                number = 0;
            }
            return NONE;
        }

        /**
         * The lengths, as bits, that the conditions about squares alone do not refuse: most starts
         * have none, and then no word needs to be looked at there.
         */
        private int lengthsThatMayFit(int start) {
            if (!Start.isOnBoard(start)) {
                return 0;
            }
            int lengths = 0;
            int room = Start.room(start);
            for (int length = SHORTEST_WORD; length <= room; length++) {
                if (isConnected(start, length) && !touchesTileAtAnEnd(start, length)) {
                    lengths |= 1 << length;
                }
            }
            return lengths;
        }

        int countPlays(int player) {
            int count = 0;
            int play = nextPlay(player, 0);
            while (count < Start.PLAYS && play != NONE) {
                count++;
                play = nextPlay(player, play + 1);
            }
            return count;
        }

        int playNumbered(int player, int index) {
            if (index < 0 || index >= Start.PLAYS) {
                return NONE;
            }
            int play = nextPlay(player, 0);
            for (int before = 0; before < index && play != NONE; before++) {
                play = nextPlay(player, play + 1);
            }
            return play;
        }

        int indexOfBest(int player) {
            int best = NONE;
            int greatest = 0;
            int play = nextPlay(player, 0);
            for (int index = 0; index < Start.PLAYS && play != NONE; index++) {
                int equity = equityOf(player, play);
                if (best == NONE || equity > greatest) {
                    best = index;
                    greatest = equity;
                }
                play = nextPlay(player, play + 1);
            }
            return best;
        }

        int equityOf(int player, int play) {
            int start = Start.ofPlay(play);
            int word = table.words.word(Start.wordOfPlay(play));
            return pointsOf(play) + table.leaveOf(rackAfter(table.rack(player), start, word));
        }

        int pointsOf(int play) {
            int start = Start.ofPlay(play);
            int word = table.words.word(Start.wordOfPlay(play));
            int sum = table.valueOfWord(word);
            int factor = 1;
            int crossPoints = 0;
            int laid = 0;
            int square = Start.square(start);
            int length = Word.length(word);
            for (int place = 0; place < length; place++) {
                if (!table.board.hasTile(square)) {
                    int letter = Word.letter(word, place);
                    int premium = table.board.premium(square);
                    sum += extraOf(letter, premium);
                    factor *= wordFactor(premium);
                    crossPoints += crossPointsOf(square, letter, start);
                    laid++;
                }
                square += Start.step(start);
            }
            return sum * factor + crossPoints + (laid == TILES_FOR_BONUS ? BONUS : 0);
        }

        private int crossPointsOf(int square, int letter, int start) {
            int word = table.board.wordThrough(square, letter, Start.crossStep(start));
            if (Word.length(word) == 1) {
                return 0;
            }
            int premium = table.board.premium(square);
            return (table.valueOfWord(word) + extraOf(letter, premium)) * wordFactor(premium);
        }

        /** What a letter counts on a premium beyond the one time that it counts anyway. */
        private int extraOf(int letter, int premium) {
            switch (premium) {
                case 1: return table.value(letter);
                case 2: return 2 * table.value(letter);
                default: return 0;
            }
        }

        private static int wordFactor(int premium) {
            switch (premium) {
                case 3: return 2;
                case 4: return 3;
                default: return 1;
            }
        }

        /** Lays a play that can be made; answers the squares that got a tile, as bits. */
        long lay(int player, int play) {
            int start = Start.ofPlay(play);
            int word = table.words.word(Start.wordOfPlay(play));
            int length = Word.length(word);
            table.changeRack(player, rackAfter(table.rack(player), start, word));
            long laid = table.board.emptyOf(Start.squares(start, length));
            int square = Start.square(start);
            for (int place = 0; place < length; place++) {
                table.board.put(square, Word.letter(word, place));
                square += Start.step(start);
            }
            return laid;
        }
    }

    /** The search of the endgame: it lays plays on the table and takes them back again. */
    private static final class Endgame {
        private static final int MOST_POSITIONS = 400;
        private static final int PASSES_TO_END = 2;

        /** A play lays a tile and two passes end it: with 10 tiles no endgame gets near this. */
        private static final int DEEPEST = 40;

        private final Table table;
        private final Rules rules;
        private int visited;

        Endgame(Table table, Rules rules) {
            this.table = table;
            this.rules = rules;
            visited = 0;
        }

        void begin() {
            visited = 0;
        }

        boolean hasFailed() {
            return visited > MOST_POSITIONS;
        }

        /** What the mover can force from here on; of no meaning once the search has failed. */
        private int bestDifference(int mover, int passes, int depth) {
            visited = depth > DEEPEST ? MOST_POSITIONS + 1 : visited + 1;
            if (hasFailed() || hasEnded(passes)) {
                return finalDifference(mover);
            }
            int best = afterPass(mover, passes, depth);
            int play = rules.nextPlay(mover, 0);
            for (int tried = 0; tried < Start.PLAYS && play != NONE && !hasFailed(); tried++) {
                best = Math.max(best, afterPlay(mover, play, depth));
                play = rules.nextPlay(mover, play + 1);
            }
            return best;
        }

        private int afterPass(int mover, int passes, int depth) {
            return -bestDifference(1 - mover, passes + 1, depth + 1);
        }

        private int afterPlay(int mover, int play, int depth) {
            int points = rules.pointsOf(play);
            int rackBefore = table.rack(mover);
            long laid = rules.lay(mover, play);
            int difference = points - bestDifference(1 - mover, 0, depth + 1);
            table.board.takeAway(laid);
            table.changeRack(mover, rackBefore);
            return difference;
        }

        private boolean hasEnded(int passes) {
            return isOut(0) || isOut(1) || passes >= PASSES_TO_END;
        }

        private boolean isOut(int player) {
            return table.rack(player) == Rack.EMPTY;
        }

        private int finalDifference(int mover) {
            int own = table.valueOfRack(mover);
            int others = table.valueOfRack(1 - mover);
            if (isOut(mover)) {
                return 2 * others;
            }
            return isOut(1 - mover) ? -2 * own : others - own;
        }
    }

    /** The saved states: a ring in which the newest takes the place of the oldest. */
    private static final class History {
        private static final int MOST_STATES = 4;

        private final Table[] states;
        private int oldest;
        private int count;

        History() {
            states = new Table[MOST_STATES];
            oldest = 0;
            count = 0;
        }

        int size() {
            return count;
        }

        void save(Table now) {
            int place = placeOf(count);
            Table state = states[place];
            if (state == null) {
                state = new Table();
                states[place] = state;
            }
            state.copyFrom(now);
            if (count < MOST_STATES) {
                count++;
            } else {
                oldest = placeOf(1);
            }
        }

        void restore(Table now) {
            if (count <= 0) {
                return;
            }
            count--;
            Table state = states[placeOf(count)];
            if (state != null) {
                now.copyFrom(state);
            }
        }

        private int placeOf(int age) {
            return (oldest + age) % MOST_STATES;
        }
    }
}
