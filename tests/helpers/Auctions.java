/** The document's face, so that the same calls can be made on the class and on the Model. */
interface Auctions {
    int lot(int kind, long grams, long reserve);

    int buyer(long credit);

    int start(int lot, long from, long step);

    boolean press(int buyer, long ms);

    boolean delay(int buyer, long ms);

    int tick(long ms);

    int winner(int lot);

    long price(int lot);

    int part(int lot, long grams);

    long left(int lot);

    boolean outage(long ms, boolean on);

    long clock();

    int rise(int lot, int buyer, long cents);

    int bid(int buyer, long cents);

    boolean on(int bid, int lot);

    int sets(long nodes);

    boolean wins(int bid);

    long sum();

    boolean proved();

    long held(int buyer);

    int again(int lot);

    long fee(int lot);

    int record(int k, int what);

    boolean chained();

    int order(int kind2, int k);

    int back(int lot);

    int play(long seed, int turns);

    int tie(int lot, int k);
}
